/-! what the loops over words and speakers compute -/
def wsum (w : Nat → Nat) (s : Nat) : Nat → Nat
  | 0 => 0
  | n + 1 => wsum w s n + (if s.testBit n = true then w n else 0)
theorem wsum_t {w : Nat → Nat} {s n : Nat} (h : s.testBit n = true) : wsum w s (n + 1) = wsum w s n + w n := by
  show wsum w s n + (if s.testBit n = true then w n else 0) = _
  rw [if_pos h]
theorem wsum_f {w : Nat → Nat} {s n : Nat} (h : ¬ s.testBit n = true) : wsum w s (n + 1) = wsum w s n := by
  show wsum w s n + (if s.testBit n = true then w n else 0) = _
  rw [if_neg h, Nat.add_zero]
theorem priceOf_N {vw : Nat → Int32} {w : Nat → Nat} {s : Nat} (h : ag 12 vw w) (hs : s < 4096) : f_X3_priceOf vw (nI s) = some (nI (wsum w s 12)) := by
  obtain ⟨r, h1, h2⟩ := wh_inv (step := s_X3_priceOf_4 vw (nI s)) (emb := fun j (t : Nat) => (nI t, nI j)) (P := fun j t => t = wsum w s j) (Q := fun r => r.1 = nI (wsum w s 12)) 12 (fun j t hj ht => Or.inl ⟨wsum w s (j + 1), by
    have hc : ¬ (12 : Int32) ≤ nI j := nI_ge hj (by decide)
    unfold s_X3_priceOf_4
    dsimp only
    rw [if_neg hc, bd_eq, isIn_N (by omega) (by omega)]
    by_cases hb : s.testBit j = true
    · rw [if_pos hb, if_neg one_ne, chk_nI _ hj (by decide), h.at hj (by decide), nI_1 j, nI_add, wsum_t hb, ht]
    · rw [if_neg hb, if_pos rfl, nI_1 j, wsum_f hb, ht], rfl⟩) (fun t ht => ⟨(nI t, nI 12), by
    unfold s_X3_priceOf_4
    dsimp only
    rw [if_pos (by decide)], by dsimp only; rw [ht]⟩) (fuel := 5000) (j0 := 0) (t0 := 0) (by decide) (by decide) rfl
  refine (ob_some h1).trans ?_
  rw [h2]
theorem costOf_N {vw : Nat → Int32} {w : Nat → Nat} {s : Nat} (h : ag 12 vw w) (hs : s < 4096) : f_X5_costOf vw (nI s) = some (nI (wsum w s 12)) := by
  obtain ⟨r, h1, h2⟩ := wh_inv (step := s_X5_costOf_4 vw (nI s)) (emb := fun j (t : Nat) => (nI t, nI j)) (P := fun j t => t = wsum w s j) (Q := fun r => r.1 = nI (wsum w s 12)) 12 (fun j t hj ht => Or.inl ⟨wsum w s (j + 1), by
    have hc : ¬ (12 : Int32) ≤ nI j := nI_ge hj (by decide)
    unfold s_X5_costOf_4
    dsimp only
    rw [if_neg hc]
    by_cases hb : s.testBit j = true
    · rw [if_pos ((bit_1 (by omega) (by omega)).mpr hb), chk_nI _ hj (by decide), h.at hj (by decide), nI_1 j, nI_add, wsum_t hb, ht]
    · rw [if_neg (fun q => hb ((bit_1 (by omega) (by omega)).mp q)), nI_1 j, wsum_f hb, ht]
      rw [show nI (wsum w s j) + 0 = nI (wsum w s j) from nI_add _ 0], rfl⟩) (fun t ht => ⟨(nI t, nI 12), by
    unfold s_X5_costOf_4
    dsimp only
    rw [if_pos (by decide)], by dsimp only; rw [ht]⟩) (fuel := 5000) (j0 := 0) (t0 := 0) (by decide) (by decide) rfl
  refine (ob_some h1).trans ?_
  rw [h2]
/-- the places below n with the value v, as bits -/
def kset (k : Nat → Nat) (v : Nat) : Nat → Nat
  | 0 => 0
  | n + 1 => kset k v n ||| (if k n = v then 2 ^ n else 0)
theorem kset_tb (k : Nat → Nat) (v : Nat) : ∀ n j, (kset k v n).testBit j = (decide (j < n) && decide (k j = v))
  | 0, j => by simp [kset]
  | n + 1, j => by
    show (kset k v n ||| (if k n = v then 2 ^ n else 0)).testBit j = _
    rw [Nat.testBit_or, kset_tb k v n j]
    by_cases e : k n = v
    · rw [if_pos e, Nat.testBit_two_pow]
      by_cases h : n = j
      · subst h; simp [e]
      · by_cases h2 : j < n
        · have : j < n + 1 := by omega
          simp [h, h2, this]
        · have : ¬ j < n + 1 := by omega
          simp [h, h2, this]
    · rw [if_neg e, Nat.zero_testBit, Bool.or_false]
      by_cases h : j = n
      · subst h; simp [e]
      · by_cases h2 : j < n
        · have : j < n + 1 := by omega
          simp [h2, this]
        · have : ¬ j < n + 1 := by omega
          simp [h2, this]
theorem kset_lt (k : Nat → Nat) (v : Nat) {n : Nat} (h : n ≤ 12) : kset k v n < 4096 := by
  apply Nat.lt_pow_two_of_testBit (n := 12)
  intro i hi
  rw [kset_tb]
  have : ¬ i < n := by omega
  simp [this]
theorem ofKind_N {vk : Nat → Int32} {k : Nat → Nat} {v : Nat} (h : ag 12 vk k) (hk : ∀ j, j < 12 → k j < 1000) (hv : v < 1000) : f_X3_ofKind vk (nI v) = some (nI (kset k v 12)) := by
  obtain ⟨r, h1, h2⟩ := wh_inv (step := s_X3_ofKind_4 vk (nI v)) (emb := fun j (t : Nat) => (nI t, nI j)) (P := fun j t => t = kset k v j) (Q := fun r => r.1 = nI (kset k v 12)) 12 (fun j t hj ht => Or.inl ⟨kset k v (j + 1), by
    have hc : ¬ (12 : Int32) ≤ nI j := nI_ge hj (by decide)
    unfold s_X3_ofKind_4
    dsimp only
    rw [if_neg hc, chk_nI _ hj (by decide), h.at hj (by decide), one_shl (by omega), fa_or, nI_1]
    have hkj := hk j hj
    by_cases e : k j = v
    · rw [if_pos (by rw [e]), ht]
      show _ = some (Sum.inl (nI (kset k v j ||| (if k j = v then 2 ^ j else 0)), _))
      rw [if_pos e]
    · rw [if_neg (fun q => e ((nI_eq (by omega) (by omega)).mp q)), ht]
      show _ = some (Sum.inl (nI (kset k v j ||| (if k j = v then 2 ^ j else 0)), _))
      rw [if_neg e, Nat.or_zero], rfl⟩) (fun t ht => ⟨(nI t, nI 12), by
    unfold s_X3_ofKind_4
    dsimp only
    rw [if_pos (by decide)], by dsimp only; rw [ht]⟩) (fuel := 5000) (j0 := 0) (t0 := 0) (by decide) (by decide) rfl
  refine (ob_some h1).trans ?_
  rw [h2]
/-- how many places of the set have the value v -/
def kcnt (k : Nat → Nat) (v s : Nat) : Nat → Nat
  | 0 => 0
  | n + 1 => kcnt k v s n + (if s.testBit n = true ∧ k n = v then 1 else 0)
theorem kcnt_le (k : Nat → Nat) (v s : Nat) : ∀ n, kcnt k v s n ≤ n
  | 0 => Nat.le_refl 0
  | n + 1 => by
    have := kcnt_le k v s n
    show kcnt k v s n + (if s.testBit n = true ∧ k n = v then 1 else 0) ≤ n + 1
    split <;> omega
theorem pc_kset (k : Nat → Nat) (v s : Nat) : pc (s &&& kset k v 12) = kcnt k v s 12 := by
  have key : ∀ n, n ≤ 12 → sm (fun j => if (s &&& kset k v 12).testBit j = true then 1 else 0) n = kcnt k v s n := by
    intro n
    induction n with
    | zero => intro _; rfl
    | succ n ih =>
      intro h
      rw [sm_succ, ih (by omega)]
      show kcnt k v s n + _ = kcnt k v s n + _
      congr 1
      rw [Nat.testBit_and, kset_tb]
      have : n < 12 := by omega
      simp [this]
  exact key 12 (Nat.le_refl 12)
theorem and_lt {a b : Nat} (ha : a < 4096) : a &&& b < 4096 := Nat.lt_of_le_of_lt Nat.and_le_left ha
theorem countKind_N {vk : Nat → Int32} {k : Nat → Nat} {v s : Nat} (h : ag 12 vk k) (hk : ∀ j, j < 12 → k j < 1000) (hv : v < 1000) (hs : s < 4096) : f_X3_countKind vk (nI s) (nI v) = some (nI (kcnt k v s 12)) := by
  refine (ob_some (ofKind_N h hk hv)).trans ?_
  rw [bd_eq, fa_and, bitCount_N (and_lt hs), pc_kset]
theorem manyOf_N {vk : Nat → Int32} {k : Nat → Nat} {v s : Nat} (h : ag 12 vk k) (hk : ∀ j, j < 12 → k j < 1000) (hv : v < 1000) (hs : s < 4096) : f_X5_manyOf vk (nI s) (nI v) = some (nI (kcnt k v s 12)) := by
  obtain ⟨r, h1, h2⟩ := wh_inv (step := s_X5_manyOf_5 vk (nI s) (nI v)) (emb := fun j (t : Nat) => (nI t, nI j)) (P := fun j t => t = kcnt k v s j) (Q := fun r => r.1 = nI (kcnt k v s 12)) 12 (fun j t hj ht => Or.inl ⟨kcnt k v s (j + 1), by
    have hc : ¬ (12 : Int32) ≤ nI j := nI_ge hj (by decide)
    have hkj := hk j hj
    have e0 : nI (kcnt k v s j) + 0 = nI (kcnt k v s j) := nI_add _ 0
    have hd : kcnt k v s (j + 1) = kcnt k v s j + (if s.testBit j = true ∧ k j = v then 1 else 0) := rfl
    unfold s_X5_manyOf_5
    dsimp only
    rw [if_neg hc]
    by_cases hb : s.testBit j = true
    · rw [if_pos ((bit_1 (by omega) (by omega)).mpr hb), chk_nI _ hj (by decide), h.at hj (by decide), nI_1 j]
      by_cases e : k j = v
      · rw [if_pos (by rw [e]), hd, if_pos ⟨hb, e⟩, ht, nI_1 (kcnt k v s j)]
      · rw [if_neg (fun q => e ((nI_eq (by omega) (by omega)).mp q)), hd, if_neg (fun q => e q.2), ht, e0] <;> rfl
    · rw [if_neg (fun q => hb ((bit_1 (by omega) (by omega)).mp q)), nI_1 j, hd, if_neg (fun q => hb q.1), ht, e0] <;> rfl, rfl⟩) (fun t ht => ⟨(nI t, nI 12), by
    unfold s_X5_manyOf_5
    dsimp only
    rw [if_pos (by decide)], by dsimp only; rw [ht]⟩) (fuel := 5000) (j0 := 0) (t0 := 0) (by decide) (by decide) rfl
  refine (ob_some h1).trans ?_
  rw [h2]
/-- what some speakers have together -/
def hset (b : Nat → Nat) (who : Nat) : Nat → Nat
  | 0 => 0
  | n + 1 => if who.testBit n = true then hset b who n ||| b n else hset b who n
theorem hset_lt {b : Nat → Nat} {who : Nat} (hb : ∀ j, b j < 4096) : ∀ n, hset b who n < 4096
  | 0 => by show (0 : Nat) < 4096; decide
  | n + 1 => by
    have := hset_lt (who := who) hb n
    show (if who.testBit n = true then hset b who n ||| b n else hset b who n) < 4096
    split
    · exact or_lt this (hb n)
    · exact this
theorem heldBy_N {vb : Nat → Int32} {b : Nat → Nat} {who : Nat} (h : ag 4 vb b) (hw : who < 4096) : f_X3_heldBy vb (nI who) = some (nI (hset b who 4)) := by
  obtain ⟨r, h1, h2⟩ := wh_inv (step := s_X3_heldBy_4 vb (nI who)) (emb := fun j (t : Nat) => (nI t, nI j)) (P := fun j t => t = hset b who j) (Q := fun r => r.1 = nI (hset b who 4)) 4 (fun j t hj ht => Or.inl ⟨hset b who (j + 1), by
    have hc : ¬ (4 : Int32) ≤ nI j := nI_ge hj (by decide)
    have hd : hset b who (j + 1) = if who.testBit j = true then hset b who j ||| b j else hset b who j := rfl
    unfold s_X3_heldBy_4
    dsimp only
    rw [if_neg hc, bd_eq, isIn_N (by omega) (by omega)]
    by_cases hb : who.testBit j = true
    · rw [if_pos hb, if_neg one_ne, chk_nI _ hj (by decide), h.at hj (by decide), nI_1 j, fa_or, hd, if_pos hb, ht]
    · rw [if_neg hb, if_pos rfl, nI_1 j, hd, if_neg hb, ht], rfl⟩) (fun t ht => ⟨(nI t, nI 4), by
    unfold s_X3_heldBy_4
    dsimp only
    rw [if_pos (by decide)], by dsimp only; rw [ht]⟩) (fuel := 5000) (j0 := 0) (t0 := 0) (by decide) (by decide) rfl
  refine (ob_some h1).trans ?_
  rw [h2]
/-- a row copied -/
theorem copyRow_N {fa fb : Nat → Int32} {n : Nat} (hn : n ≤ 1000) : ∃ o, f_X4_copyRow n fa fb = some o ∧ ∀ j, j < n → o j = fa j := by
  obtain ⟨r, h1, h2⟩ := wh_inv (step := s_X4_copyRow_2 n fa) (emb := fun j (t : Nat → Int32) => (nI j, t)) (P := fun j t => ∀ i, i < j → t i = fa i) (Q := fun r => ∀ i, i < n → r.2 i = fa i) n (fun j t hj ht => Or.inl ⟨upd t j (fa j), by
    have hc : ¬ Int32.ofNat n ≤ nI j := nI_ge hj (by omega)
    unfold s_X4_copyRow_2
    dsimp only
    rw [if_neg hc, chk_nI _ hj hn, nI_1 j, nI_clamp (by omega)], fun i hi => by
    by_cases e : i = j
    · subst e; rw [pk_us]
    · rw [pk_un e]; exact ht i (by omega)⟩) (fun t ht => ⟨(nI n, t), by
    unfold s_X4_copyRow_2
    dsimp only
    rw [if_pos (show Int32.ofNat n ≤ nI n from nI_le (Nat.le_refl n) (by omega))], ht⟩) (fuel := 5000) (j0 := 0) (t0 := fb) (by omega) (by omega) (fun i hi => absurd hi (Nat.not_lt_zero i))
  exact ⟨r.2, (ob_some h1).trans rfl, h2⟩
theorem copyFrom_N (vw vk vr vp vb vi vl vg vo uw uk ur up ub ui : Nat → Int32) (uwc : Int32) (ul ug uo : Nat → Int32) (usc : Int32) : ∃ w k r p b i l g o, f_X3_copyFrom vw vk vr vp vb vi vl vg vo uw uk ur up ub ui uwc ul ug uo usc = some (w, k, r, p, b, i, uwc, l, g, o, usc) ∧ (∀ j, j < 12 → w j = uw j) ∧ (∀ j, j < 12 → k j = uk j) ∧ (∀ j, j < 12 → r j = ur j) ∧ (∀ j, j < 4 → p j = up j) ∧ (∀ j, j < 4 → b j = ub j) ∧ (∀ j, j < 8 → i j = ui j) ∧ (∀ j, j < 6 → l j = ul j) ∧ (∀ j, j < 6 → g j = ug j) ∧ (∀ j, j < 6 → o j = uo j) := by
  obtain ⟨o1, a1, b1⟩ := copyRow_N (fa := uw) (fb := vw) (n := 12) (by decide)
  obtain ⟨o2, a2, b2⟩ := copyRow_N (fa := uk) (fb := vk) (n := 12) (by decide)
  obtain ⟨o3, a3, b3⟩ := copyRow_N (fa := ur) (fb := vr) (n := 12) (by decide)
  obtain ⟨o4, a4, b4⟩ := copyRow_N (fa := up) (fb := vp) (n := 4) (by decide)
  obtain ⟨o5, a5, b5⟩ := copyRow_N (fa := ub) (fb := vb) (n := 4) (by decide)
  obtain ⟨o6, a6, b6⟩ := copyRow_N (fa := ui) (fb := vi) (n := 8) (by decide)
  obtain ⟨o7, a7, b7⟩ := copyRow_N (fa := ul) (fb := vl) (n := 6) (by decide)
  obtain ⟨o8, a8, b8⟩ := copyRow_N (fa := ug) (fb := vg) (n := 6) (by decide)
  obtain ⟨o9, a9, b9⟩ := copyRow_N (fa := uo) (fb := vo) (n := 6) (by decide)
  refine ⟨o1, o2, o3, o4, o5, o6, o7, o8, o9, ?_, b1, b2, b3, b4, b5, b6, b7, b8, b9⟩
  unfold f_X3_copyFrom
  rw [ob_some a1, ob_some a2, ob_some a3, ob_some a4, ob_some a5, ob_some a6, ob_some a7, ob_some a8, ob_some a9]
