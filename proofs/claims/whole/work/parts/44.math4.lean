theorem fb_holes : ∀ (m n : Nat) (f : Nat → Nat), (∀ i, i < n → f i < m) → (∀ i j, i < j → j < n → f i ≠ f j) → n ≤ m := by
  intro m
  induction m with
  | zero =>
    intro n f h1 _
    rcases Nat.eq_zero_or_pos n with h | h
    · omega
    · exact absurd (h1 0 h) (Nat.not_lt_zero _)
  | succ m ih =>
    intro n f h1 h2
    by_cases hx : ∃ i, i < n ∧ f i = m
    · obtain ⟨a, ha, hfa⟩ := hx
      have hg := ih (n - 1) (fun i => if i < a then f i else f (i + 1)) (by
        intro i hi
        by_cases q : i < a
        · simp only [if_pos q]
          have b1 := h1 i (by omega)
          have b2 := h2 i a q ha
          omega
        · simp only [if_neg q]
          have b1 := h1 (i + 1) (by omega)
          have b2 := h2 a (i + 1) (by omega) (by omega)
          omega) (by
        intro i j hij hj
        by_cases q : i < a
        · by_cases r : j < a
          · simp only [if_pos q, if_pos r]
            exact h2 i j hij (by omega)
          · simp only [if_pos q, if_neg r]
            exact h2 i (j + 1) (by omega) (by omega)
        · have r : ¬ j < a := by omega
          simp only [if_neg q, if_neg r]
          exact h2 (i + 1) (j + 1) (by omega) (by omega))
      omega
    · have hg := ih n f (fun i hi => by
        have b1 := h1 i hi
        have b2 : f i ≠ m := fun e => hx ⟨i, hi, e⟩
        omega) h2
      omega

/-! a word leaves its rhymes -/
def unmet (m : Nat → Nat) (i n : Nat) : Prop := ∀ w, w < 12 → w ≠ i → m w ≠ n
theorem unmet_ex (m : Nat → Nat) {i : Nat} (hi : i < 12) : ∃ n, n < 12 ∧ unmet m i n := by
  apply Classical.byContradiction
  intro hno
  have hall : ∀ n, n < 12 → ∃ w, w < 12 ∧ w ≠ i ∧ m w = n := fun n hn => by
    apply Classical.byContradiction
    intro q
    exact hno ⟨n, hn, fun w h1 h2 h3 => q ⟨w, h1, h2, h3⟩⟩
  have hg : ∀ n : Nat, ∃ w, n < 12 → w < 12 ∧ w ≠ i ∧ m w = n := fun n => by
    by_cases hn : n < 12
    · obtain ⟨w, h⟩ := hall n hn
      exact ⟨w, fun _ => h⟩
    · exact ⟨0, fun q => absurd q hn⟩
  have hf := fun n => Classical.choose_spec (hg n)
  have := fb_holes 11 12 (fun n => if Classical.choose (hg n) < i then Classical.choose (hg n) else Classical.choose (hg n) - 1) (fun n hn => by
    obtain ⟨h1, h2, h3⟩ := hf n hn
    split <;> omega) (fun a b hab hb => by
    obtain ⟨h1, h2, h3⟩ := hf a (by omega)
    obtain ⟨g1, g2, g3⟩ := hf b hb
    intro q
    have e : Classical.choose (hg a) = Classical.choose (hg b) := by
      split at q <;> split at q <;> omega
    rw [e] at h3
    omega)
  omega
theorem freeRhyme_N {vr : Nat → Int32} {m : Nat → Nat} {i : Nat} (h : ag 12 vr m) (hm : ∀ j, m j < 12) (hi : i < 12) : ∃ f, f_X5_freeRhyme vr (nI i) = some (nI f) ∧ f < 12 ∧ unmet m i f := by
  have inner : ∀ n, n < 12 → ∃ r, wh (s_X5_freeRhyme_15 vr (nI i) (nI n)) 5000 (0, 0) = some r ∧ ((r.1 = 0 ∧ unmet m i n) ∨ (r.1 = 1 ∧ ¬ unmet m i n)) := fun n hn =>
    wh_inv (step := s_X5_freeRhyme_15 vr (nI i) (nI n)) (emb := fun j (t : Int32) => (t, nI j)) (P := fun j t => (t = 0 ∧ ∀ w, w < j → w ≠ i → m w ≠ n) ∨ (t = 1 ∧ ¬ unmet m i n)) (Q := fun r => (r.1 = 0 ∧ unmet m i n) ∨ (r.1 = 1 ∧ ¬ unmet m i n)) 12 (fun j t hj ht => by
      have hc : ¬ (12 : Int32) ≤ nI j := nI_ge hj (by decide)
      have hmj := hm j
      left
      unfold s_X5_freeRhyme_15
      dsimp only
      rw [if_neg hc]
      rcases ht with ⟨rfl, ht⟩ | ⟨rfl, ht⟩
      · rw [if_pos rfl]
        by_cases e : j = i
        · subst e
          refine ⟨0, by rw [if_pos rfl, nI_1], Or.inl ⟨rfl, fun w hw hne => ht w (by omega) hne⟩⟩
        · rw [if_neg (fun q => e ((nI_eq (by omega) (by omega)).mp q)), chk_nI _ hj (by decide), h.at hj (by decide), nI_1]
          by_cases c : m j = n
          · exact ⟨1, by rw [if_pos (by rw [c])], Or.inr ⟨rfl, fun q => q j hj e c⟩⟩
          · refine ⟨0, by rw [if_neg (fun q => c ((nI_eq (by omega) (by omega)).mp q))], Or.inl ⟨rfl, fun w hw hne => ?_⟩⟩
            by_cases q : w = j
            · subst q; exact c
            · exact ht w (by omega) hne
      · exact ⟨1, by rw [if_neg one_ne, nI_1], Or.inr ⟨rfl, ht⟩⟩) (fun t ht => ⟨(t, nI 12), by
      unfold s_X5_freeRhyme_15
      dsimp only
      rw [if_pos (by decide)], by
      rcases ht with ⟨rfl, ht⟩ | ⟨rfl, ht⟩
      · exact Or.inl ⟨rfl, ht⟩
      · exact Or.inr ⟨rfl, ht⟩⟩) (fuel := 5000) (j0 := 0) (t0 := 0) (by decide) (by decide) (Or.inl ⟨rfl, fun w hw => absurd hw (Nat.not_lt_zero w)⟩)
  have dn : ∀ j, j < 12 → nI 11 - nI j = nI (11 - j) ∧ nI 11 - nI j + (-1) = nI 11 - nI (j + 1) ∧ ¬ (nI 11 - nI j < 0) := by decide +kernel
  obtain ⟨r, h1, f, h2, h3, h4⟩ := wh_inv (step := s_X5_freeRhyme_5 vr (nI i)) (emb := fun j (t : Int32) => (t, nI 11 - nI j)) (P := fun j t => (∃ f, t = nI f ∧ f < 12 ∧ unmet m i f) ∨ (t = 0 ∧ ∀ n, 12 - j ≤ n → n < 12 → ¬ unmet m i n)) (Q := fun r => ∃ f, r.1 = nI f ∧ f < 12 ∧ unmet m i f) 12 (fun j t hj ht => by
    obtain ⟨d1, d2, d3⟩ := dn j hj
    left
    unfold s_X5_freeRhyme_5
    dsimp only
    rw [if_neg d3]
    obtain ⟨r, g1, g2⟩ := inner (11 - j) (by omega)
    rw [← d1] at g1
    rw [ob_some g1, d2]
    rcases g2 with ⟨g2, g3⟩ | ⟨g2, g3⟩
    · rw [if_pos g2]
      exact ⟨_, rfl, Or.inl ⟨11 - j, d1, by omega, g3⟩⟩
    · rw [if_neg (by rw [g2]; exact one_ne)]
      refine ⟨t, rfl, ?_⟩
      rcases ht with ht | ⟨rfl, ht⟩
      · exact Or.inl ht
      · refine Or.inr ⟨rfl, fun n q1 q2 => ?_⟩
        by_cases e : n = 11 - j
        · subst e; exact g3
        · exact ht n (by omega) q2) (fun t ht => ⟨(t, nI 11 - nI 12), by
    unfold s_X5_freeRhyme_5
    dsimp only
    rw [if_pos (by decide)], by
    rcases ht with ht | ⟨rfl, ht⟩
    · exact ht
    · obtain ⟨n, n1, n2⟩ := unmet_ex m hi
      exact absurd n2 (ht n (by omega) n1)⟩) (fuel := 5000) (j0 := 0) (t0 := 0) (by decide) (by decide) (Or.inr ⟨rfl, fun n q1 q2 => by omega⟩)
  refine ⟨f, (ob_some h1).trans ?_, h3, h4⟩
  rw [h2]
theorem leave_X {vr : Nat → Int32} {m : Nat → Nat} {i f : Nat} (h : ag 12 vr (mk m)) (hi : i < 12) (hf : unmet m i f) : ∃ o, f_X3_leaveRhymes vr (nI i) = some o ∧ ag 12 o (mk (updN m i f)) := by
  obtain ⟨r, h1, h2⟩ := wh_inv (step := s_X3_leaveRhymes_14 (nI i)) (emb := fun j (t : Nat → Int32) => (nI j, t)) (P := fun j t => (∀ x, x < j → t x = nI (an (mk m x) (2 ^ i))) ∧ ∀ x, x < 12 → j ≤ x → t x = nI (mk m x)) (Q := fun r => ∀ x, x < 12 → r.2 x = nI (an (mk m x) (2 ^ i))) 12 (fun j t hj ht => by
    have hc : ¬ (12 : Int32) ≤ nI j := nI_ge hj (by decide)
    left
    unfold s_X3_leaveRhymes_14
    dsimp only
    rw [if_neg hc, chk_nI _ hj (by decide), nI_1, nI_clamp (n := j) (by omega), one_shl (by omega), ht.2 j hj (Nat.le_refl j), andnot (mk_lt m j) (p2_lt hi)]
    refine ⟨_, rfl, fun x hx => ?_, fun x hx hx2 => ?_⟩
    · by_cases e : x = j
      · subst e; rw [pk_us]
      · rw [pk_un e]; exact ht.1 x (by omega)
    · rw [pk_un (by omega)]; exact ht.2 x hx (by omega)) (fun t ht => ⟨(nI 12, t), by
    unfold s_X3_leaveRhymes_14
    dsimp only
    rw [if_pos (by decide)], ht.1⟩) (fuel := 5000) (j0 := 0) (t0 := vr) (by decide) (by decide) ⟨fun x hx => absurd hx (Nat.not_lt_zero x), fun x hx _ => h x hx⟩
  refine ⟨upd r.2 (nI i).toNatClampNeg (nI (2 ^ i)), ?_, fun x hx => ?_⟩
  · unfold f_X3_leaveRhymes
    rw [bd_eq, isWord_1 hi, if_neg one_ne]
    refine (ob_some h1).trans ?_
    rw [chk_nI _ hi (by decide), one_shl (by omega)]
  · rw [nI_clamp (by omega)]
    by_cases e : x = i
    · subst e
      rw [pk_us]
      congr 1
      apply eq_tb (p2_lt hi) (mk_lt _ _)
      intro y hy
      rw [mk_tb, p2_tb, updN_self]
      by_cases q : x = y
      · subst q; rw [updN_self]; simp [hy]
      · rw [updN_ne (fun z => q z.symm)]
        have : ¬ m y = f := hf y hy (fun z => q z.symm)
        simp [q, this]
    · rw [pk_un e, h2 x hx]
      congr 1
      apply eq_tb (an_lt (mk_lt _ _)) (mk_lt _ _)
      intro y hy
      rw [an_tb (mk_lt _ _), mk_tb, mk_tb, p2_tb, updN_ne e]
      by_cases q : i = y
      · subst q
        rw [updN_self]
        have : ¬ f = m x := fun z => hf x hx e z.symm
        simp [this]
      · rw [updN_ne (fun z => q z.symm)]
        simp [q]
theorem t_part {S : Nat → Nat → Nat} (ok : okS S) {vw vk vr vp vb vi vl vg vo : Nat → Int32} {vwc vsc : Int32} {mw mkd mr mp mb mi ml mg mo : Nat → Int32} {mwc msc : Int32} (hX : XA S vw vk vr vp vb vi vwc vl vg vo vsc) (hM : MA S mw mkd mr mp mb mi mwc ml mg mo msc) (p0 : Int32) :
    ∃ o o' S', f_X4_part vr p0 = some o ∧ f_X5_part mr p0 = some o' ∧ o.1 = o'.1 ∧ okS S' ∧ XA S' vw vk o.2 vp vb vi vwc vl vg vo vsc ∧ MA S' mw mkd o'.2 mp mb mi mwc ml mg mo msc := by
  have hX0 := hX
  have hM0 := hM
  have ok0 := ok
  obtain ⟨x0, x1, x2, x3⟩ := hX
  obtain ⟨y0, y1, y2, y3⟩ := hM
  obtain ⟨k0, k1, k2, k3⟩ := ok
  unfold f_X4_part f_X5_part
  simp only [bd_eq, isWord_eq]
  rcases isWord_N p0 with h | ⟨h, i, hi, rfl⟩
  · refine ⟨(-1, vr), (-1, mr), S, ?_, ?_, rfl, ok0, hX0, hM0⟩ <;> rw [if_pos h]
  · obtain ⟨f, f1, f2, f3⟩ := freeRhyme_N y2 k2 hi
    obtain ⟨o, a1, a2⟩ := leave_X x2 hi f3
    rw [h, if_neg one_ne, if_neg one_ne, chk_nI _ hi (by decide), x2.at hi (by decide), bitCount_N (mk_lt _ _), ob_some a1, ob_some (rhymesOf_N y2 k2 hi), ob_some (ones_N (an_lt (mk_lt _ _))), ob_some f1, chk_nI _ hi (by decide)]
    refine ⟨_, _, setS S 2 (updN (S 2) i f), rfl, rfl, ?_, ?_, ?_, ?_⟩
    · show nI (pc _) - 1 = nI (pc _)
      rw [← pc_an1 (mk_lt _ _) hi (mk_self _ hi), nI_pred]
    · exact ⟨k0, k1, upd_lt k2 f2, k3⟩
    · exact ⟨x0, x1, a2, x3⟩
    · exact ⟨y0, y1, y2.upd (by omega), y3⟩
