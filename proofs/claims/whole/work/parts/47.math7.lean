/-! the fewest words, the hollow one -/
theorem and0_iff {a b : Nat} (ha : a < 4096) : nI a &&& nI b = 0 ↔ a &&& b = 0 := by
  rw [fa_and]
  have := and_lt (b := b) ha
  exact nI_eq (b := 0) (by omega) (by decide)
theorem grants_X {vi : Nat → Int32} {wi : Nat → Nat} {c s : Nat} (h : ag 8 vi wi) (hw : ∀ j, wi j < 4096) (hc : c ≤ 8) : f_X3_grantsAll vi (nI c) (nI s) = some (if ∀ e, e < c → ¬ wi e &&& s = 0 then 1 else 0) := by
  obtain ⟨r, h1, h2⟩ := wh_inv (step := s_X3_grantsAll_2 vi (nI c) (nI s)) (emb := fun j (_ : Unit) => nI j) (P := fun j _ => ∀ e, e < j → ¬ wi e &&& s = 0) (Q := fun r => ret2 (fun _ => some 1) r = some (if ∀ e, e < c → ¬ wi e &&& s = 0 then (1 : Int32) else 0)) c (fun j t hj ht => by
    have hc1 : ¬ nI c ≤ nI j := nI_ge hj (by omega)
    have hc2 : ¬ (8 : Int32) ≤ nI j := nI_ge (b := 8) (by omega) (by decide)
    unfold s_X3_grantsAll_2
    rw [if_neg hc1, if_neg hc2, chk_nI _ (by omega) (by decide), h.at (by omega) (by decide)]
    by_cases q : wi j &&& s = 0
    · right
      refine ⟨.inr 0, by rw [if_pos ((and0_iff (hw j)).mpr q)], ?_⟩
      rw [if_neg (fun z => z j hj q)]
      rfl
    · left
      refine ⟨(), by rw [if_neg (fun z => q ((and0_iff (hw j)).mp z)), nI_1], fun e he => ?_⟩
      by_cases z : e = j
      · subst z; exact q
      · exact ht e (by omega)) (fun t ht => by
    unfold s_X3_grantsAll_2
    refine ⟨.inl (nI c), by rw [if_pos (nI_le (Nat.le_refl c) (by omega))], ?_⟩
    rw [if_pos ht]
    rfl) (fuel := 5000) (j0 := 0) (t0 := ()) (by omega) (by omega) (fun e he => absurd he (Nat.not_lt_zero e))
  exact (ob_some h1).trans h2
theorem asks_M {mi : Nat → Int32} {wi : Nat → Nat} {c s : Nat} (h : ag 8 mi wi) (hw : ∀ j, wi j < 4096) (hc : c ≤ 8) (hs : s < 4096) : f_X5_asksAll mi (nI c) (nI s) = some (if ∀ e, e < c → ¬ wi e &&& s = 0 then 1 else 0) := by
  obtain ⟨r, h1, h2⟩ := wh_inv (step := s_X5_asksAll_4 mi (nI c) (nI s)) (emb := fun j (t : Int32) => (t, nI j)) (P := fun j t => t = if ∀ e, e < j → ¬ wi e &&& s = 0 then 1 else 0) (Q := fun r => r.1 = if ∀ e, e < c → ¬ wi e &&& s = 0 then 1 else 0) c (fun j t hj ht => by
    have hc1 : ¬ nI c ≤ nI j := nI_ge hj (by omega)
    left
    unfold s_X5_asksAll_4
    dsimp only
    rw [if_neg hc1]
    by_cases a : ∀ e, e < j → ¬ wi e &&& s = 0
    · rw [if_pos a] at ht
      rw [ht, if_neg one_ne, chk_nI _ (by omega) (by decide), h.at (by omega) (by decide)]
      by_cases q : wi j &&& s = 0
      · refine ⟨0, by rw [if_pos (by rw [and0_iff hs, Nat.and_comm]; exact q), nI_1], ?_⟩
        rw [if_neg (fun z => z j (by omega) q)]
      · refine ⟨1, by rw [if_neg (fun z => q (by rw [and0_iff hs, Nat.and_comm] at z; exact z)), nI_1], ?_⟩
        rw [if_pos (fun e he => ?_)]
        by_cases z : e = j
        · subst z; exact q
        · exact a e (by omega)
    · rw [if_neg a] at ht
      rw [ht, if_pos rfl, nI_1]
      refine ⟨0, rfl, ?_⟩
      rw [if_neg (fun z => a (fun e he => z e (by omega)))]) (fun t ht => ⟨(t, nI c), by
    unfold s_X5_asksAll_4
    dsimp only
    rw [if_pos (nI_le (Nat.le_refl c) (by omega))], ht⟩) (fuel := 5000) (j0 := 0) (t0 := 1) (by omega) (by omega) (by rw [if_pos (fun e he => absurd he (Nat.not_lt_zero e))])
  refine (ob_some h1).trans ?_
  rw [h2]
  unfold bchk
  split
  · rfl
  · rfl
theorem nine_two {vi mi : Nat → Int32} {wi : Nat → Nat} {c : Nat} (x : ag 8 vi wi) (y : ag 8 mi wi) (hw : ∀ j, wi j < 4096) (hc : c ≤ 8) :
    ∃ r r', wh (s_X4_fewestWords_8 vi (nI c)) 5000 (-6, 13, 0) = some r ∧ wh (s_X5_nine_18 mi (nI c)) 5000 (-6, 0) = some r' ∧ r.1 = r'.1 ∧ (r'.1 = -6 ∨ ∃ s, s < 4096 ∧ r'.1 = nI s) :=
  wh_two (f := s_X4_fewestWords_8 vi (nI c)) (g := s_X5_nine_18 mi (nI c)) (τ := Int32 × Int32) (fun j t => (t.1, t.2, nI j)) (fun j t => (t.1, nI j)) (fun j t => (t.1 = -6 ∧ t.2 = 13) ∨ ∃ s, s < j ∧ s < 4096 ∧ t.1 = nI s ∧ t.2 = nI (pc s)) (fun r r' => r.1 = r'.1 ∧ (r'.1 = -6 ∨ ∃ s, s < 4096 ∧ r'.1 = nI s)) 4096 (fun j t hj ht => by
    have hcj : ¬ (4095 : Int32) < nI j := nI_nlt (b := j) (a := 4095) (by omega) (by decide)
    have lp := pc_le j
    have gx := grants_X (s := j) x hw hc
    have gy := asks_M (s := j) y hw hc hj
    generalize (if ∀ e, e < c → ¬ wi e &&& j = 0 then (1 : Int32) else 0) = a at gx gy
    unfold s_X4_fewestWords_8 s_X5_nine_18
    dsimp only
    rw [if_neg hcj, if_neg hcj, bd_eq, bitCount_N hj, ob_some gx, ob_some gy, nI_1, ob_some (ones_N hj)]
    rcases ht with ⟨e1, e2⟩ | ⟨s, e0, e1, e2, e3⟩
    · rw [e1, e2, if_neg (show ¬ (13 : Int32) ≤ nI (pc j) from nI_ge (b := 13) (by omega) (by decide)), if_pos (show (-6 : Int32) < 0 by decide)]
      by_cases q : a = 0
      · rw [if_pos q, if_pos q]
        exact ⟨(-6, 13), rfl, rfl, Or.inl ⟨rfl, rfl⟩⟩
      · rw [if_neg q, if_neg q]
        exact ⟨(nI j, nI (pc j)), rfl, rfl, Or.inr ⟨j, by omega, hj, rfl, rfl⟩⟩
    · rw [e2, e3, if_neg (nI_nneg (by omega)), ob_some (ones_N e1)]
      by_cases q : nI (pc s) ≤ nI (pc j)
      · rw [if_pos q, if_pos q]
        exact ⟨(nI s, nI (pc s)), rfl, rfl, Or.inr ⟨s, by omega, e1, rfl, rfl⟩⟩
      · rw [if_neg q, if_neg q]
        by_cases q : a = 0
        · rw [if_pos q, if_pos q]
          exact ⟨(nI s, nI (pc s)), rfl, rfl, Or.inr ⟨s, by omega, e1, rfl, rfl⟩⟩
        · rw [if_neg q, if_neg q]
          exact ⟨(nI j, nI (pc j)), rfl, rfl, Or.inr ⟨j, by omega, hj, rfl, rfl⟩⟩) (fun t ht => ⟨(t.1, t.2, nI 4096), (t.1, nI 4096), by
    unfold s_X4_fewestWords_8
    dsimp only
    rw [if_pos (by decide)], by
    unfold s_X5_nine_18
    dsimp only
    rw [if_pos (by decide)], rfl, ht.elim (fun q => Or.inl q.1) (fun ⟨s, _, a1, a2, _⟩ => Or.inr ⟨s, a1, a2⟩)⟩) (fuel := 5000) (fuel' := 5000) (j0 := 0) (-6, 13) (by decide) (by decide) (by decide) (Or.inl ⟨rfl, rfl⟩)
theorem t_nine {S : Nat → Nat → Nat} (ok : okS S) {vw vk vr vp vb vi vl vg vo : Nat → Int32} {vwc vsc : Int32} {mw mkd mr mp mb mi ml mg mo : Nat → Int32} {mwc msc : Int32} (hX : XA S vw vk vr vp vb vi vwc vl vg vo vsc) (hM : MA S mw mkd mr mp mb mi mwc ml mg mo msc) (p0 : Int32) :
    ∃ o, f_X4_nine vi vwc p0 = some o ∧ f_X5_nine mi mwc p0 = some o := by
  obtain ⟨x0, x1, x2, x3, x4, x5, rfl, x7⟩ := hX
  obtain ⟨y0, y1, y2, y3, y4, y5, rfl, y7⟩ := hM
  obtain ⟨k0, k1, k2, k3, k4, k5, k6, k7, k8, k9, k10⟩ := ok
  have e2 : f_X5_in p0.toInt64 0 1 = f_X4_isWithin p0 0 1 := in_eq (by decide) (by decide)
  unfold f_X4_nine f_X5_nine
  simp only [bd_eq, e2]
  rcases wi_cases p0 0 1 with ⟨h2, -⟩ | ⟨h2, -⟩
  · refine ⟨-2, ?_, ?_⟩ <;> rw [if_pos h2]
  · obtain ⟨r, r', g1, g2, g3, g4⟩ := nine_two x5 y5 k5 k9
    have fs : f_X4_fewestWords vi (nI (S 9 0)) = some r.1 := ob_some g1
    rw [h2, if_neg one_ne, if_neg one_ne, ob_some fs, ob_some g2, g3]
    by_cases q : p0 = 1
    · rw [if_pos q, if_pos q]
      refine ⟨r'.1, rfl, ?_⟩
      split <;> rfl
    · rw [if_neg q, if_neg q]
      rcases g4 with g4 | ⟨s, hs, g4⟩
      · rw [g4]
        exact ⟨-6, rfl, rfl⟩
      · rw [g4, if_neg (nI_ne6 (by omega)), if_neg (nI_nneg (by omega)), bitCount_N hs, ob_some (ones_N hs)]
        exact ⟨_, rfl, rfl⟩
/-- who can be the hollow one behind n sights -/
def sus (l g o : Nat → Nat) : Nat → Nat
  | 0 => 4095
  | n + 1 => if o n = 0 then sus l g o n &&& l n else if o n = 1 then sus l g o n &&& g n else an (sus l g o n) (l n ||| g n)
theorem sus_lt (l g o : Nat → Nat) : ∀ n, sus l g o n < 4096
  | 0 => by show (4095 : Nat) < 4096; decide
  | n + 1 => by
    have := sus_lt l g o n
    show (if o n = 0 then sus l g o n &&& l n else if o n = 1 then sus l g o n &&& g n else an (sus l g o n) (l n ||| g n)) < 4096
    split
    · exact and_lt this
    · split
      · exact and_lt this
      · exact an_lt this
theorem suspects_X {vl vg vo : Nat → Int32} {l g o : Nat → Nat} {c : Nat} (x1 : ag 6 vl l) (x2 : ag 6 vg g) (x3 : ag 6 vo o) (hl : ∀ j, l j < 4096) (hg : ∀ j, g j < 4096) (ho : ∀ j, o j ≤ 2) (hc : c ≤ 6) : f_X3_suspects vl vg vo (nI c) = some (nI (sus l g o c)) := by
  obtain ⟨r, h1, h2⟩ := wh_inv (step := s_X3_suspects_6 vl vg vo (nI c)) (emb := fun j (t : Nat) => (nI t, nI j)) (P := fun j t => t = sus l g o j) (Q := fun r => r.1 = nI (sus l g o c)) c (fun j t hj ht => Or.inl ⟨sus l g o (j + 1), by
    have hc1 : ¬ nI c ≤ nI j := nI_ge hj (by omega)
    have hc2 : ¬ (6 : Int32) ≤ nI j := nI_ge (b := 6) (by omega) (by decide)
    have hoj := ho j
    have hd : sus l g o (j + 1) = if o j = 0 then sus l g o j &&& l j else if o j = 1 then sus l g o j &&& g j else an (sus l g o j) (l j ||| g j) := rfl
    unfold s_X3_suspects_6
    dsimp only
    rw [if_neg hc1, if_neg hc2, chk_nI _ (by omega) (by decide), x3.at (by omega) (by decide), x1.at (by omega) (by decide), x2.at (by omega) (by decide), nI_1, fa_and, fa_and, fa_or, ht, andnot (sus_lt l g o j) (or_lt (hl j) (hg j)), hd]
    by_cases q : o j = 0
    · rw [if_pos (by rw [q]; rfl), if_pos q]
    · rw [if_neg (neL (L := 0) (b := 0) rfl q (by omega) (by decide)), if_neg q]
      by_cases q1 : o j = 1
      · rw [if_pos (by rw [q1]; rfl), if_pos q1]
      · rw [if_neg (neL (L := 1) (b := 1) rfl q1 (by omega) (by decide)), if_neg q1], rfl⟩) (fun t ht => ⟨(nI t, nI c), by
    unfold s_X3_suspects_6
    dsimp only
    rw [if_pos (nI_le (Nat.le_refl c) (by omega))], by dsimp only; rw [ht]⟩) (fuel := 5000) (j0 := 0) (t0 := 4095) (by omega) (by omega) rfl
  refine (ob_some h1).trans ?_
  rw [h2]
theorem hollow_M {vl vg vo : Nat → Int32} {l g o : Nat → Nat} {c : Nat} (x1 : ag 6 vl l) (x2 : ag 6 vg g) (x3 : ag 6 vo o) (hl : ∀ j, l j < 4096) (hg : ∀ j, g j < 4096) (ho : ∀ j, o j ≤ 2) (hc : c ≤ 6) : f_X5_hollow vl vg vo (nI c) = some (nI (sus l g o c)) := by
  have e4095 : ∀ b, b < 4096 → (4095 : Int32) &&& (nI b ^^^ (-1)) = nI (an 4095 b) := fun b hb => andnot (a := 4095) (by decide) hb
  have ee : ∀ a b, a < 4096 → b < 4096 → a &&& an 4095 b = an a b := fun a b ha hb => by
    apply eq_tb (and_lt ha) (an_lt ha)
    intro j hj
    rw [Nat.testBit_and, an_tb (by decide), an_tb ha]
    have : (4095 : Nat).testBit j = true := by
      have : (4095 : Nat) = 2 ^ 12 - 1 := rfl
      rw [this, Nat.testBit_two_pow_sub_one]
      simp [hj]
    rw [this, Bool.true_and]
  obtain ⟨r, h1, h2⟩ := wh_inv (step := s_X5_hollow_6 vl vg vo (nI c)) (emb := fun j (t : Nat) => (nI t, nI j)) (P := fun j t => t = sus l g o j) (Q := fun r => r.1 = nI (sus l g o c)) c (fun j t hj ht => Or.inl ⟨sus l g o (j + 1), by
    have hc1 : ¬ nI c ≤ nI j := nI_ge hj (by omega)
    have hoj := ho j
    have hd : sus l g o (j + 1) = if o j = 0 then sus l g o j &&& l j else if o j = 1 then sus l g o j &&& g j else an (sus l g o j) (l j ||| g j) := rfl
    unfold s_X5_hollow_6
    dsimp only
    rw [if_neg hc1, chk_nI _ (by omega) (by decide), x3.at (by omega) (by decide), x1.at (by omega) (by decide), x2.at (by omega) (by decide), nI_1, fa_or, e4095 _ (or_lt (hl j) (hg j)), fa_and, fa_and, fa_and, ht, ee _ _ (sus_lt l g o j) (or_lt (hl j) (hg j)), hd]
    by_cases q : o j = 0
    · rw [if_pos (by rw [q]; rfl), if_pos q]
    · rw [if_neg (neL (L := 0) (b := 0) rfl q (by omega) (by decide)), if_neg q]
      by_cases q1 : o j = 1
      · rw [if_pos (by rw [q1]; rfl), if_pos q1]
      · rw [if_neg (neL (L := 1) (b := 1) rfl q1 (by omega) (by decide)), if_neg q1], rfl⟩) (fun t ht => ⟨(nI t, nI c), by
    unfold s_X5_hollow_6
    dsimp only
    rw [if_pos (nI_le (Nat.le_refl c) (by omega))], by dsimp only; rw [ht]⟩) (fuel := 5000) (j0 := 0) (t0 := 4095) (by omega) (by omega) rfl
  refine (ob_some h1).trans ?_
  rw [h2]
theorem t_hollow {S : Nat → Nat → Nat} (ok : okS S) {vw vk vr vp vb vi vl vg vo : Nat → Int32} {vwc vsc : Int32} {mw mkd mr mp mb mi ml mg mo : Nat → Int32} {mwc msc : Int32} (hX : XA S vw vk vr vp vb vi vwc vl vg vo vsc) (hM : MA S mw mkd mr mp mb mi mwc ml mg mo msc) :
    ∃ o, f_X4_hollow vl vg vo vsc = some o ∧ f_X5_hollow ml mg mo msc = some o := by
  obtain ⟨x0, x1, x2, x3, x4, x5, x6, x7, x8, x9, rfl⟩ := hX
  obtain ⟨y0, y1, y2, y3, y4, y5, y6, y7, y8, y9, rfl⟩ := hM
  obtain ⟨k0, k1, k2, k3, k4, k5, k6, k7, k8, k9, k10⟩ := ok
  exact ⟨_, (ob_some (suspects_X x7 x8 x9 k6 k7 k8 k10)).trans rfl, hollow_M y7 y8 y9 k6 k7 k8 k10⟩
theorem worse_eq (a b : Int32) : f_X5_worse a b = f_X4_mostLeft a b := by
  unfold f_X5_worse f_X4_mostLeft
  by_cases h : b < a - 2 * b
  · rw [if_pos h, if_pos (fa_of_lt h).1]
  · rw [if_neg h]
    by_cases h2 : b ≤ a - 2 * b
    · rw [if_pos h2]
      rw [fa_lt] at h
      rw [fa_le] at h2
      exact (fa_eq _ _).mpr (by omega)
    · rw [if_neg h2]
theorem lay_dec : ∀ c, c < 13 → (∃ v, f_X4_fewestWeighings (nI c) = some v ∧ f_X5_turnsFor (nI c) = some v) := by
  intro c hc
  have h : (List.range 13).all (fun c => (f_X4_fewestWeighings (nI c)).isSome && decide (f_X4_fewestWeighings (nI c) = f_X5_turnsFor (nI c))) = true := by decide +kernel
  have := List.all_eq_true.mp h c (List.mem_range.mpr hc)
  rw [Bool.and_eq_true, decide_eq_true_eq] at this
  obtain ⟨v, hv⟩ := Option.isSome_iff_exists.mp this.1
  exact ⟨v, hv, by rw [← this.2]; exact hv⟩
theorem lay_dec2 : ∀ c, c < 13 → (∃ r, wh (s_X5_lay_45 (nI c)) 5000 (0, 1) = some r ∧ f_X4_bestEach (nI c) = some r.1) := by
  intro c hc
  have h : (List.range 13).all (fun c => (wh (s_X5_lay_45 (nI c)) 5000 (0, 1)).isSome && decide (f_X4_bestEach (nI c) = (wh (s_X5_lay_45 (nI c)) 5000 (0, 1)).map Prod.fst)) = true := by decide +kernel
  have := List.all_eq_true.mp h c (List.mem_range.mpr hc)
  rw [Bool.and_eq_true, decide_eq_true_eq] at this
  obtain ⟨v, hv⟩ := Option.isSome_iff_exists.mp this.1
  exact ⟨v, hv, by rw [this.2, hv]; rfl⟩
theorem tt_lay {S : Nat → Nat → Nat} (ok : okS S) {vw vk vr vp vb vi vl vg vo : Nat → Int32} {vwc vsc : Int32} {mw mkd mr mp mb mi ml mg mo : Nat → Int32} {mwc msc : Int32} (hX : XA S vw vk vr vp vb vi vwc vl vg vo vsc) (hM : MA S mw mkd mr mp mb mi mwc ml mg mo msc) (p0 : Int32) :
    ∃ o, f_X4_lay vl vg vo vsc p0 = some o ∧ f_X5_lay ml mg mo msc p0 = some o := by
  obtain ⟨x0, x1, x2, x3, x4, x5, x6, x7, x8, x9, rfl⟩ := hX
  obtain ⟨y0, y1, y2, y3, y4, y5, y6, y7, y8, y9, rfl⟩ := hM
  obtain ⟨k0, k1, k2, k3, k4, k5, k6, k7, k8, k9, k10⟩ := ok
  have e2 : f_X5_in p0.toInt64 0 2 = f_X4_isWithin p0 0 2 := in_eq (by decide) (by decide)
  have hs := sus_lt (S 6) (S 7) (S 8) (S 9 1)
  have lp := pc_le (sus (S 6) (S 7) (S 8) (S 9 1))
  unfold f_X4_lay f_X5_lay
  simp only [bd_eq, e2]
  rw [ob_some (suspects_X x7 x8 x9 k6 k7 k8 k10), ob_some (hollow_M y7 y8 y9 k6 k7 k8 k10), bitCount_N hs, ob_some (ones_N hs)]
  rcases wi_cases p0 0 2 with ⟨h2, -⟩ | ⟨h2, -⟩
  · refine ⟨-2, ?_, ?_⟩ <;> rw [if_pos h2]
  · rw [h2, if_neg one_ne, if_neg one_ne]
    generalize pc (sus (S 6) (S 7) (S 8) (S 9 1)) = c at lp
    by_cases q : p0 = 2
    · obtain ⟨v, g1, g2⟩ := lay_dec c (by omega)
      rw [if_pos q, if_pos q, ob_some g1, ob_some g2]
      exact ⟨v, rfl, rfl⟩
    · rw [if_neg q, if_neg q]
      by_cases z : nI c = 0
      · rw [if_pos z, if_pos z]
        exact ⟨-6, rfl, rfl⟩
      · obtain ⟨r, g1, g2⟩ := lay_dec2 c (by omega)
        rw [if_neg z, if_neg z, ob_some g1, ob_some g2, worse_eq]
        by_cases w : p0 = 0
        · rw [if_pos w]
          exact ⟨_, rfl, rfl⟩
        · rw [if_neg w]
          exact ⟨_, rfl, rfl⟩
