/-! what is told -/
theorem told_word {S : Nat → Nat → Nat} (ok : okS S) {vw vk vr mw mkd mr : Nat → Int32} (x0 : ag 12 vw (S 0)) (x1 : ag 12 vk (S 1)) (x2 : ag 12 vr (mk (S 2))) (y0 : ag 12 mw (S 0)) (y1 : ag 12 mkd (S 1)) (y2 : ag 12 mr (S 2)) {i : Nat} (hi : i < 12) (p : Int32) : ∃ o, f_X4_tellWord vw vk vr (nI i) p = some o ∧ f_X5_toldOfWord mw mkd mr (nI i) p = some o := by
  obtain ⟨k0, k1, k2, k3⟩ := ok
  unfold f_X4_tellWord f_X5_toldOfWord
  rw [bd_eq, isWord_1 hi, if_neg one_ne, chk_nI _ hi (by decide), chk_nI _ hi (by decide), chk_nI _ hi (by decide), chk_nI _ hi (by decide), chk_nI _ hi (by decide), x0.at hi (by decide), x1.at hi (by decide), x2.at hi (by decide), y0.at hi (by decide), y1.at hi (by decide), one_shl (by omega), andnot (mk_lt _ _) (p2_lt hi), ob_some (rhymesOf_N y2 k2 hi)]
  by_cases a0 : p = 0
  · rw [if_pos a0]; exact ⟨_, rfl, rfl⟩
  · rw [if_neg a0]
    by_cases a1 : p = 1
    · rw [if_pos a1]; exact ⟨_, rfl, rfl⟩
    · rw [if_neg a1]
      by_cases a2 : p = 2
      · rw [if_pos a2]; exact ⟨_, rfl, rfl⟩
      · rw [if_neg a2]; exact ⟨_, rfl, rfl⟩
theorem t_told {S : Nat → Nat → Nat} (ok : okS S) {vw vk vr vp vb vi vl vg vo : Nat → Int32} {vwc vsc : Int32} {mw mkd mr mp mb mi ml mg mo : Nat → Int32} {mwc msc : Int32} (hX : XA S vw vk vr vp vb vi vwc vl vg vo vsc) (hM : MA S mw mkd mr mp mb mi mwc ml mg mo msc) {sgc pdm : Int32} (hc : sgc = pdm) (p0 : Int32) :
    ∃ o, f_X4_told sgc vw vk vr vp vb vwc vsc p0 = some o ∧ f_X5_told mw mkd mr mp mb mwc msc pdm p0 = some o := by
  have ok0 := ok
  obtain ⟨x0, x1, x2, x3, x4, x5, x6, x7, x8, x9, x10⟩ := hX
  obtain ⟨y0, y1, y2, y3, y4, y5, y6, y7, y8, y9, y10⟩ := hM
  obtain ⟨k0, k1, k2, k3, k4, k5⟩ := ok
  have e1 : f_X5_in p0.toInt64 100 219 = f_X4_isWithin p0 100 219 := in_eq (by decide) (by decide)
  have e2 : f_X5_in p0.toInt64 10 13 = f_X4_isWithin p0 10 13 := in_eq (by decide) (by decide)
  have e3 : f_X5_in p0.toInt64 20 23 = f_X4_isWithin p0 20 23 := in_eq (by decide) (by decide)
  subst hc
  unfold f_X4_told f_X5_told
  simp only [bd_eq, e1, e2, e3]
  have w : ∀ {j lo hi : Nat} {lo' hi' : Int32}, lo' = nI lo → hi' = nI hi → j < 2 ^ 31 → hi < 2 ^ 31 → lo < 2 ^ 31 → (j < lo ∨ hi < j) → f_X4_isWithin (nI j) lo' hi' = 0 := fun {j lo hi lo' hi'} a1 a2 a3 a4 a5 a6 => by
    rw [a1, a2]
    exact wi_0 a3 a4 a6 a5
  rcases wi_L p0 0 2 0 2 rfl rfl (by decide) (by decide) with h0 | ⟨h0, j, -, hj, rfl⟩
  · rw [h0, if_pos rfl]
    rcases wi_L p0 10 13 10 13 rfl rfl (by decide) (by decide) with h1 | ⟨h1, j, hj1, hj2, rfl⟩
    · rw [h1, if_pos rfl, if_pos rfl]
      rcases wi_L p0 20 23 20 23 rfl rfl (by decide) (by decide) with h2 | ⟨h2, j, hj1, hj2, rfl⟩
      · rw [h2, if_pos rfl, if_pos rfl]
        rcases wi_L p0 100 219 100 219 rfl rfl (by decide) (by decide) with h3 | ⟨h3, j, hj1, hj2, rfl⟩
        · rw [h3, if_pos rfl, if_pos rfl]
          have n0 : ¬ p0 = 0 := fun q => by rw [q] at h0; exact absurd h0 (by decide)
          have n1 : ¬ p0 = 1 := fun q => by rw [q] at h0; exact absurd h0 (by decide)
          have n2 : ¬ p0 = 2 := fun q => by rw [q] at h0; exact absurd h0 (by decide)
          rw [if_neg n0, if_neg n1, if_neg n2]
          exact ⟨_, rfl, rfl⟩
        · rw [h3, if_neg one_ne, if_neg one_ne]
          have d1 : nI j - 100 = nI (j - 100) := pk_sub (b := 100) hj1
          have d2 : nI (j - 100) / 10 = nI ((j - 100) / 10) := pk_div (d := 10) (by omega) (by decide) (by decide)
          have d3 : nI (j - 100) - nI (j - 100) / 10 * 10 = nI ((j - 100) % 10) := pk_rem (d := 10) (by omega) (by decide) (by decide)
          have d4 : nI j - nI j / 10 * 10 = nI (j % 10) := pk_rem (d := 10) (by omega) (by decide) (by decide)
          have d5 : j % 10 = (j - 100) % 10 := by omega
          obtain ⟨o, g1, g2⟩ := told_word ok0 x0 x1 x2 y0 y1 y2 (i := (j - 100) / 10) (by omega) (nI ((j - 100) % 10))
          rw [d4, d5, d1, d3, d2, ob_some g1, ob_some g2]
          exact ⟨o, rfl, rfl⟩
      · rw [h2, if_neg one_ne, if_neg one_ne, w (j := j) (lo' := 100) (hi' := 219) (lo := 100) (hi := 219) rfl rfl (by omega) (by decide) (by decide) (by omega), if_pos rfl]
        have d1 : nI j - 20 = nI (j - 20) := pk_sub (b := 20) hj1
        rw [d1, chk_nI _ (by omega) (by decide), chk_nI _ (by omega) (by decide), x4.at (by omega) (by decide), y4.at (by omega) (by decide)]
        exact ⟨_, rfl, rfl⟩
    · rw [h1, if_neg one_ne, if_neg one_ne, w (j := j) (lo' := 100) (hi' := 219) (lo := 100) (hi := 219) rfl rfl (by omega) (by decide) (by decide) (by omega), if_pos rfl]
      have d1 : nI j - 10 = nI (j - 10) := pk_sub (b := 10) hj1
      rw [d1, chk_nI _ (by omega) (by decide), chk_nI _ (by omega) (by decide), x3.at (by omega) (by decide), y3.at (by omega) (by decide)]
      exact ⟨_, rfl, rfl⟩
  · rw [h0, if_neg one_ne, w (j := j) (lo' := 100) (hi' := 219) (lo := 100) (hi := 219) rfl rfl (by omega) (by decide) (by decide) (by omega), if_pos rfl, w (j := j) (lo' := 10) (hi' := 13) (lo := 10) (hi := 13) rfl rfl (by omega) (by decide) (by decide) (by omega), if_pos rfl, w (j := j) (lo' := 20) (hi' := 23) (lo := 20) (hi := 23) rfl rfl (by omega) (by decide) (by decide) (by omega), if_pos rfl, x6, x10, y6, y10]
    unfold f_X4_tellCount
    by_cases c0 : nI j = 0
    · rw [if_pos c0, if_pos c0]
      exact ⟨_, rfl, rfl⟩
    · rw [if_neg c0, if_neg c0]
      by_cases c1 : nI j = 1
      · rw [if_pos c1, if_pos c1]
        exact ⟨_, rfl, rfl⟩
      · have : j = 2 := by
          have a0 : ¬ j = 0 := fun q => c0 (by rw [q]; rfl)
          have a1 : ¬ j = 1 := fun q => c1 (by rw [q]; rfl)
          omega
        subst this
        rw [if_neg c1, if_neg c1, if_pos (show nI 2 = 2 from rfl)]
        exact ⟨_, rfl, rfl⟩
/-! what a set weighs on the scales -/
/-- the heaviest among the words of the set s -/
def mxw (w : Nat → Nat) (s : Nat) : Nat → Nat
  | 0 => 0
  | n + 1 => if s.testBit n = true ∧ mxw w s n < w n then w n else mxw w s n
theorem mxw_le {w : Nat → Nat} {s : Nat} (hw : ∀ j, w j ≤ 99) : ∀ n, mxw w s n ≤ 99
  | 0 => Nat.zero_le 99
  | n + 1 => by
    have := mxw_le (s := s) hw n
    have := hw n
    show (if s.testBit n = true ∧ mxw w s n < w n then w n else mxw w s n) ≤ 99
    split <;> omega
theorem heaviest_X {vw : Nat → Int32} {w : Nat → Nat} {s : Nat} (h : ag 12 vw w) (hw : ∀ j, w j ≤ 99) (hs : s < 4096) : f_X3_heaviestOf vw (nI s) = some (nI (mxw w s 12)) := by
  obtain ⟨r, h1, h2⟩ := wh_inv (step := s_X3_heaviestOf_4 vw (nI s)) (emb := fun j (t : Nat) => (nI t, nI j)) (P := fun j t => t = mxw w s j) (Q := fun r => r.1 = nI (mxw w s 12)) 12 (fun j t hj ht => Or.inl ⟨mxw w s (j + 1), by
    have hc : ¬ (12 : Int32) ≤ nI j := nI_ge hj (by decide)
    have hd : mxw w s (j + 1) = if s.testBit j = true ∧ mxw w s j < w j then w j else mxw w s j := rfl
    have b1 := mxw_le (s := s) hw j
    have b2 := hw j
    unfold s_X3_heaviestOf_4
    dsimp only
    rw [if_neg hc, bd_eq, isIn_N (by omega) (by omega)]
    by_cases hb : s.testBit j = true
    · rw [if_pos hb, if_neg one_ne, chk_nI _ hj (by decide), h.at hj (by decide), nI_1, hd, ht]
      by_cases q : mxw w s j < w j
      · rw [if_pos (nI_lt q (by omega)), if_pos ⟨hb, q⟩]
      · rw [if_neg (nI_nlt (by omega) (by omega)), if_neg (fun z => q z.2)]
    · rw [if_neg hb, if_pos rfl, nI_1, hd, if_neg (fun z => hb z.1), ht], rfl⟩) (fun t ht => ⟨(nI t, nI 12), by
    unfold s_X3_heaviestOf_4
    dsimp only
    rw [if_pos (by decide)], by dsimp only; rw [ht]⟩) (fuel := 5000) (j0 := 0) (t0 := 0) (by decide) (by decide) rfl
  refine (ob_some h1).trans ?_
  rw [h2]
theorem mxw_cong {w : Nat → Nat} {s s' : Nat} : ∀ n, (∀ j, j < n → s.testBit j = s'.testBit j) → mxw w s n = mxw w s' n
  | 0, _ => rfl
  | n + 1, h => by
    show (if s.testBit n = true ∧ mxw w s n < w n then w n else mxw w s n) = (if s'.testBit n = true ∧ mxw w s' n < w n then w n else mxw w s' n)
    rw [mxw_cong n (fun j hj => h j (by omega)), h n (by omega)]
theorem mxw_0 {w : Nat → Nat} {s : Nat} : ∀ n, (∀ j, j < n → s.testBit j = false) → mxw w s n = 0
  | 0, _ => rfl
  | n + 1, h => by
    show (if s.testBit n = true ∧ mxw w s n < w n then w n else mxw w s n) = 0
    rw [mxw_0 n (fun j hj => h j (by omega)), h n (by omega)]
    rfl
theorem inner_M {mw mr : Nat → Int32} {w m : Nat → Nat} {s v : Nat} (h : ag 12 mw w) (h' : ag 12 mr m) (hw : ∀ j, w j ≤ 99) (hm : ∀ j, m j < 12) (hs : s < 4096) (hv : v < 12) : ∃ r, wh (s_X5_scales_31 mw mr (nI s) (nI v)) 5000 (0, 0) = some r ∧ r.1 = nI (mxw w (s &&& kset m v 12) 12) := by
  exact wh_inv (step := s_X5_scales_31 mw mr (nI s) (nI v)) (emb := fun j (t : Nat) => (nI t, nI j)) (P := fun j t => t = mxw w (s &&& kset m v 12) j) (Q := fun r => r.1 = nI (mxw w (s &&& kset m v 12) 12)) 12 (fun j t hj ht => Or.inl ⟨mxw w (s &&& kset m v 12) (j + 1), by
    have hc : ¬ (12 : Int32) ≤ nI j := nI_ge hj (by decide)
    have hd : mxw w (s &&& kset m v 12) (j + 1) = if (s &&& kset m v 12).testBit j = true ∧ mxw w (s &&& kset m v 12) j < w j then w j else mxw w (s &&& kset m v 12) j := rfl
    have hb : (s &&& kset m v 12).testBit j = (s.testBit j && decide (m j = v)) := by
      rw [Nat.testBit_and, kset_tb]
      simp [hj]
    have b1 := mxw_le (s := s &&& kset m v 12) hw j
    have b2 := hw j
    have b3 := hm j
    unfold s_X5_scales_31
    dsimp only
    rw [if_neg hc, chk_nI _ hj (by decide), h.at hj (by decide), h'.at hj (by decide), nI_1, hd, hb, ht]
    by_cases q1 : s.testBit j = true
    · rw [if_pos ((bit_1 (by omega) (by omega)).mpr q1), q1]
      by_cases q2 : m j = v
      · rw [if_pos (show nI (m j) = nI v by rw [q2])]
        by_cases q : mxw w (s &&& kset m v 12) j < w j
        · rw [if_neg (nI_ge q (by omega)), if_pos ⟨by simp [q2], q⟩]
        · rw [if_pos (nI_le (by omega) (by omega)), if_neg (fun z => q z.2)]
      · rw [if_neg (show ¬ nI (m j) = nI v from fun z => q2 ((nI_eq (by omega) (by omega)).mp z)), if_neg (fun z => by simp [q2] at z)]
    · rw [if_neg (fun z => q1 ((bit_1 (by omega) (by omega)).mp z)), if_neg (fun z => by simp [q1] at z)], rfl⟩) (fun t ht => ⟨(nI t, nI 12), by
    unfold s_X5_scales_31
    dsimp only
    rw [if_pos (by decide)], by dsimp only; rw [ht]⟩) (fuel := 5000) (j0 := 0) (t0 := 0) (by decide) (by decide) rfl
/-- the sum over the groups that have a word below n in the set -/
def grp (w m : Nat → Nat) (s n : Nat) : Nat := sm (fun v => if (List.range n).any (fun j => s.testBit j && decide (m j = v)) = true then mxw w (s &&& kset m v 12) 12 else 0) 12
theorem sm_one {f f' : Nat → Nat} {v0 : Nat} (h : ∀ v, v ≠ v0 → f' v = f v) : ∀ n, v0 < n → sm f' n + f v0 = sm f n + f' v0
  | 0, hn => absurd hn (Nat.not_lt_zero _)
  | n + 1, hn => by
    rw [sm_succ, sm_succ]
    by_cases e : v0 = n
    · subst e
      have : sm f' v0 = sm f v0 := sm_cong (fun j hj => h j (by omega))
      omega
    · have := sm_one h n (by omega)
      have := h n (fun q => e q.symm)
      omega
def anyb (m : Nat → Nat) (s n v : Nat) : Bool := (List.range n).any (fun j => s.testBit j && decide (m j = v))
theorem anyb_iff {m : Nat → Nat} {s n v : Nat} : anyb m s n v = true ↔ ∃ j, j < n ∧ s.testBit j = true ∧ m j = v := by
  unfold anyb
  rw [List.any_eq_true]
  constructor
  · rintro ⟨j, h1, h2⟩
    rw [Bool.and_eq_true, decide_eq_true_eq] at h2
    exact ⟨j, List.mem_range.mp h1, h2.1, h2.2⟩
  · rintro ⟨j, h1, h2, h3⟩
    exact ⟨j, List.mem_range.mpr h1, by rw [Bool.and_eq_true, decide_eq_true_eq]; exact ⟨h2, h3⟩⟩
theorem weigh_X {vw vr : Nat → Int32} {w m : Nat → Nat} {s : Nat} (h : ag 12 vw w) (h' : ag 12 vr (mk m)) (hw : ∀ j, w j ≤ 99) (hm : ∀ j, m j < 12) (hs : s < 4096) : f_X3_weigh vw vr (nI s) = some (nI (grp w m s 12)) := by
  have gd : ∀ n, grp w m s n = sm (fun v => if anyb m s n v = true then mxw w (s &&& kset m v 12) 12 else 0) 12 := fun n => rfl
  obtain ⟨r, h1, h2⟩ := wh_inv (step := s_X3_weigh_7 vw vr) (emb := fun j (t : Nat × Nat) => (nI t.1, nI t.2, nI j)) (P := fun j t => t.1 = grp w m s j ∧ t.2 < 4096 ∧ ∀ x, x < 12 → (t.2.testBit x = true ↔ (s.testBit x = true ∧ ¬ anyb m s j (m x) = true))) (Q := fun r => r.1 = nI (grp w m s 12)) 12 (fun j t hj ht => by
    obtain ⟨t1, t2, t3⟩ := ht
    have hc : ¬ (12 : Int32) ≤ nI j := nI_ge hj (by decide)
    left
    unfold s_X3_weigh_7
    dsimp only
    rw [if_neg hc, bd_eq, isIn_N (by omega) (by omega)]
    by_cases hb : t.2.testBit j = true
    · obtain ⟨q1, q2⟩ := (t3 j hj).mp hb
      have hset : t.2 &&& mk m j = s &&& kset m (m j) 12 := by
        apply eq_tb (and_lt t2) (and_lt hs)
        intro x hx
        rw [Nat.testBit_and, Nat.testBit_and, mk_tb, kset_tb]
        by_cases e : m x = m j
        · simp only [hx, e, decide_true, Bool.and_true]
          have := t3 x hx
          rw [e] at this
          cases a : s.testBit x <;> cases b : t.2.testBit x
          · rfl
          · rw [a, b] at this; exact absurd (this.mp rfl).1 Bool.false_ne_true
          · rw [a, b] at this; exact absurd (this.mpr ⟨rfl, q2⟩) Bool.false_ne_true
          · rfl
        · simp [e]
      rw [if_pos hb, if_neg one_ne, chk_nI _ hj (by decide), h'.at hj (by decide), fa_and, hset, ob_some (heaviest_X h hw (and_lt hs)), andnot t2 (mk_lt m j), nI_1, nI_add]
      refine ⟨(t.1 + mxw w (s &&& kset m (m j) 12) 12, an t.2 (mk m j)), rfl, ?_, an_lt t2, fun x hx => ?_⟩
      · show t.1 + _ = _
        have a1 : anyb m s (j + 1) (m j) = true := anyb_iff.mpr ⟨j, Nat.lt_succ_self j, q1, rfl⟩
        have := sm_one (f := fun v => if anyb m s j v = true then mxw w (s &&& kset m v 12) 12 else 0) (f' := fun v => if anyb m s (j + 1) v = true then mxw w (s &&& kset m v 12) 12 else 0) (v0 := m j) (fun v hv => by
          have : anyb m s (j + 1) v = anyb m s j v := by
            rw [Bool.eq_iff_iff, anyb_iff, anyb_iff]
            constructor
            · rintro ⟨y, y1, y2, y3⟩
              refine ⟨y, ?_, y2, y3⟩
              by_cases e : y = j
              · subst e; exact absurd y3.symm hv
              · omega
            · rintro ⟨y, y1, y2, y3⟩
              exact ⟨y, by omega, y2, y3⟩
          show (if anyb m s (j + 1) v = true then _ else _) = _
          rw [this]) 12 (hm j)
        rw [gd (j + 1), t1, gd j]
        rw [if_pos a1, if_neg q2] at this
        omega
      · show (an t.2 (mk m j)).testBit x = true ↔ _
        rw [an_tb t2, Bool.and_eq_true, t3 x hx, mk_tb]
        simp only [hx, decide_true, Bool.true_and, Bool.not_eq_true', decide_eq_false_iff_not]
        constructor
        · rintro ⟨⟨a1, a2⟩, a3⟩
          refine ⟨a1, fun z => ?_⟩
          obtain ⟨y, y1, y2, y3⟩ := anyb_iff.mp z
          by_cases e : y = j
          · subst e; exact a3 y3.symm
          · exact a2 (anyb_iff.mpr ⟨y, by omega, y2, y3⟩)
        · rintro ⟨a1, a2⟩
          refine ⟨⟨a1, fun z => ?_⟩, fun z => a2 (anyb_iff.mpr ⟨j, Nat.lt_succ_self j, q1, z.symm⟩)⟩
          obtain ⟨y, y1, y2, y3⟩ := anyb_iff.mp z
          exact a2 (anyb_iff.mpr ⟨y, by omega, y2, y3⟩)
    · have same : ∀ v, anyb m s (j + 1) v = anyb m s j v := fun v => by
        rw [Bool.eq_iff_iff, anyb_iff, anyb_iff]
        constructor
        · rintro ⟨y, y1, y2, y3⟩
          by_cases e : y = j
          · subst e
            apply Classical.byContradiction
            intro z
            apply hb
            rw [t3 y hj]
            refine ⟨y2, fun q => z ?_⟩
            rw [y3] at q
            exact anyb_iff.mp q
          · exact ⟨y, by omega, y2, y3⟩
        · rintro ⟨y, y1, y2, y3⟩
          exact ⟨y, by omega, y2, y3⟩
      rw [if_neg hb, if_pos rfl, nI_1]
      refine ⟨t, rfl, ?_, t2, fun x hx => ?_⟩
      · rw [t1, gd, gd]
        exact sm_cong (fun v _ => by rw [same v])
      · rw [t3 x hx, same]) (fun t ht => ⟨(nI t.1, nI t.2, nI 12), by
    unfold s_X3_weigh_7
    dsimp only
    rw [if_pos (by decide)], by dsimp only; rw [ht.1]⟩) (fuel := 5000) (j0 := 0) (t0 := (0, s)) (by decide) (by decide) ⟨by
      rw [gd]
      show 0 = sm (fun v => if anyb m s 0 v = true then _ else 0) 12
      rw [sm_cong (g := fun _ => 0) (fun v _ => by
        have : ¬ anyb m s 0 v = true := fun z => by
          obtain ⟨y, y1, _⟩ := anyb_iff.mp z
          exact absurd y1 (Nat.not_lt_zero y)
        rw [if_neg this])]
      rfl, hs, fun x hx => ⟨fun q => ⟨q, fun z => by
        obtain ⟨y, y1, _⟩ := anyb_iff.mp z
        exact absurd y1 (Nat.not_lt_zero y)⟩, fun q => q.1⟩⟩
  refine (ob_some h1).trans ?_
  rw [h2]
theorem t_scales {S : Nat → Nat → Nat} (ok : okS S) {vw vk vr vp vb vi vl vg vo : Nat → Int32} {vwc vsc : Int32} {mw mkd mr mp mb mi ml mg mo : Nat → Int32} {mwc msc : Int32} (hX : XA S vw vk vr vp vb vi vwc vl vg vo vsc) (hM : MA S mw mkd mr mp mb mi mwc ml mg mo msc) (p0 : Int32) :
    ∃ o, f_X4_scales vw vr p0 = some o ∧ f_X5_scales mw mr p0 = some o := by
  obtain ⟨x0, x1, x2, x3⟩ := hX
  obtain ⟨y0, y1, y2, y3⟩ := hM
  obtain ⟨k0, k1, k2, k3⟩ := ok
  have e1 : f_X5_in p0.toInt64 0 4095 = f_X4_isSet p0 := in_eq (by decide) (by decide)
  unfold f_X4_scales f_X5_scales
  simp only [bd_eq, e1]
  rcases isSet_N p0 with h | ⟨h, s, hs, rfl⟩
  · refine ⟨-2, ?_, ?_⟩ <;> rw [if_pos h]
  · rw [h, if_neg one_ne, if_neg one_ne, ob_some (weigh_X x0 x2 k0 k2 hs)]
    obtain ⟨r, g1, g2⟩ := wh_inv (step := s_X5_scales_19 mw mr (nI s)) (emb := fun j (t : Nat) => (nI t, nI j)) (P := fun j t => t = sm (fun v => mxw (S 0) (s &&& kset (S 2) v 12) 12) j) (Q := fun r => r.1 = nI (sm (fun v => mxw (S 0) (s &&& kset (S 2) v 12) 12) 12)) 12 (fun j t hj ht => Or.inl ⟨sm (fun v => mxw (S 0) (s &&& kset (S 2) v 12) 12) (j + 1), by
      have hc : ¬ (12 : Int32) ≤ nI j := nI_ge hj (by decide)
      obtain ⟨r, a1, a2⟩ := inner_M y0 y2 k0 k2 hs hj
      unfold s_X5_scales_19
      dsimp only
      rw [if_neg hc, ob_some a1, a2, nI_1, nI_add, sm_succ, ht], rfl⟩) (fun t ht => ⟨(nI t, nI 12), by
      unfold s_X5_scales_19
      dsimp only
      rw [if_pos (by decide)], by dsimp only; rw [ht]⟩) (fuel := 5000) (j0 := 0) (t0 := 0) (by decide) (by decide) rfl
    refine ⟨_, rfl, (ob_some g1).trans ?_⟩
    rw [g2]
    congr 2
    show _ = sm (fun v => if anyb (S 2) s 12 v = true then mxw (S 0) (s &&& kset (S 2) v 12) 12 else 0) 12
    apply sm_cong
    intro v hv
    by_cases a : anyb (S 2) s 12 v = true
    · rw [if_pos a]
    · rw [if_neg a]
      apply mxw_0
      intro x hx
      rw [Nat.testBit_and, kset_tb]
      cases b : s.testBit x
      · rfl
      · by_cases e : S 2 x = v
        · exact absurd (anyb_iff.mpr ⟨x, hx, b, e⟩) a
        · simp [e]
