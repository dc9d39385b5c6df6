/-- a number that is to be 0 or 1 -/
def bchk {α : Type} (v : Int32) (x : Option α) : Option α := if v = 0 then x else if v = 1 then x else none
theorem bchk_el {α : Type} {v : Int32} {x : Option α} {out : α} (h : bchk v x = some out) : narrow .boolean (.int v) = .int v ∧ x = some out := by
  unfold bchk at h
  by_cases h0 : v = 0
  · rw [if_pos h0] at h
    subst h0
    exact ⟨rfl, h⟩
  · rw [if_neg h0] at h
    by_cases h1 : v = 1
    · rw [if_pos h1] at h
      subst h1
      exact ⟨rfl, h⟩
    · rw [if_neg h1] at h
      cases h
