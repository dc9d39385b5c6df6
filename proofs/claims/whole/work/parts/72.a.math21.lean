/-! images and the beginning: the shop's side, the other's -/
def S00 : Nat → Nat → Nat := fun i j => if i = 0 then 10 else if i = 2 then (if j < 12 then j else 0) else if i = 3 then 50 else 0
theorem S00_ok : okS S00 := by
  refine ⟨fun j => show (10 : Nat) ≤ 99 by decide, fun j => show (0 : Nat) ≤ 2 by decide, fun j => ?_, fun j => show (50 : Nat) ≤ 999 by decide, fun j => show (0 : Nat) < 4096 by decide, fun j => show (0 : Nat) < 4096 by decide, fun j => show (0 : Nat) < 4096 by decide, fun j => show (0 : Nat) < 4096 by decide, fun j => show (0 : Nat) ≤ 2 by decide, by decide, by decide⟩
  show (if j < 12 then j else 0) < 12
  split <;> omega
theorem mk00 : ∀ j, j < 12 → nI (mk (S00 2) j) = nI (2 ^ j) := by decide +kernel
theorem X3_init_N : ∃ o, f_X3_init = some o ∧ XA S00 o.1 o.2.1 o.2.2.1 o.2.2.2.1 o.2.2.2.2.1 o.2.2.2.2.2.1 o.2.2.2.2.2.2.1 o.2.2.2.2.2.2.2.1 o.2.2.2.2.2.2.2.2.1 o.2.2.2.2.2.2.2.2.2.1 o.2.2.2.2.2.2.2.2.2.2 := by
  obtain ⟨r, h1, h2⟩ := wh_inv (step := s_X3_init_86) (emb := fun j (t : (Nat → Int32) × (Nat → Int32) × (Nat → Int32)) => (nI j, t)) (P := fun j t => ∀ i, i < j → t.1 i = nI 10 ∧ t.2.1 i = nI 0 ∧ t.2.2 i = nI (2 ^ i)) (Q := fun r => ∀ i, i < 12 → r.2.1 i = nI 10 ∧ r.2.2.1 i = nI 0 ∧ r.2.2.2 i = nI (2 ^ i)) 12 (fun j t hj ht => by
    have hc : ¬ (12 : Int32) ≤ nI j := nI_ge hj (by decide)
    refine Or.inl ⟨(upd t.1 j (nI 10), upd t.2.1 j (nI 0), upd t.2.2 j (nI (2 ^ j))), ?_, ?_⟩
    · unfold s_X3_init_86
      dsimp only
      rw [if_neg hc, chk_nI _ hj (by decide), nI_clamp (by omega), one_shl (by omega), nI_1]
      rfl
    · intro i hi
      dsimp only
      by_cases e : i = j
      · subst e
        rw [pk_us, pk_us, pk_us]
        exact ⟨rfl, rfl, rfl⟩
      · rw [pk_un e, pk_un e, pk_un e]
        exact ht i (by omega)) (fun t ht => ⟨(nI 12, t), by
    unfold s_X3_init_86
    dsimp only
    rw [if_pos (by decide)], ht⟩) (fuel := 5000) (j0 := 0) (t0 := ((fun _ => 0), (fun _ => 0), (fun _ => 0))) (by decide) (by decide) (fun i hi => absurd hi (Nat.not_lt_zero i))
  obtain ⟨q, g1, g2⟩ := wh_inv (step := s_X3_init_124) (emb := fun j (t : Nat → Int32) => (nI j, t)) (P := fun j t => ∀ i, i < j → t i = nI 50) (Q := fun r => ∀ i, i < 4 → r.2 i = nI 50) 4 (fun j t hj ht => by
    have hc : ¬ (4 : Int32) ≤ nI j := nI_ge hj (by decide)
    refine Or.inl ⟨upd t j (nI 50), ?_, ?_⟩
    · unfold s_X3_init_124
      dsimp only
      rw [if_neg hc, chk_nI _ hj (by decide), nI_clamp (by omega), nI_1]
      rfl
    · intro i hi
      by_cases e : i = j
      · subst e
        rw [pk_us]
      · rw [pk_un e]
        exact ht i (by omega)) (fun t ht => ⟨(nI 4, t), by
    unfold s_X3_init_124
    dsimp only
    rw [if_pos (by decide)], ht⟩) (fuel := 5000) (j0 := 0) (t0 := (fun _ => 0)) (by decide) (by decide) (fun i hi => absurd hi (Nat.not_lt_zero i))
  exact ⟨_, (ob_some h1).trans ((ob_some g1).trans rfl), fun j hj => (h2 j hj).1, fun j hj => (h2 j hj).2.1, fun j hj => ((h2 j hj).2.2).trans (mk00 j hj).symm, fun j hj => g2 j hj, fun _ _ => rfl, fun _ _ => rfl, rfl, fun _ _ => rfl, fun _ _ => rfl, fun _ _ => rfl, rfl⟩
theorem X5_init_N : ∃ o, f_X5_init = some o ∧ MA S00 o.1 o.2.1 o.2.2.1 o.2.2.2.1 o.2.2.2.2.1 o.2.2.2.2.2.1 o.2.2.2.2.2.2.1 o.2.2.2.2.2.2.2.1 o.2.2.2.2.2.2.2.2.1 o.2.2.2.2.2.2.2.2.2.1 o.2.2.2.2.2.2.2.2.2.2.1 ∧ o.2.2.2.2.2.2.2.2.2.2.2.2.1 = 0 ∧ ∀ i, o.2.2.2.2.2.2.2.2.2.2.2.2.2.2.2.2.2.2.2.2.2.2.2.2.2.2.2.2.2.2.1 i = 0 := by
  obtain ⟨r, h1, h2⟩ := wh_inv (step := s_X5_init_156) (emb := fun j (t : (Nat → Int32) × (Nat → Int32)) => (nI j, t)) (P := fun j t => ∀ i, i < j → t.1 i = nI 10 ∧ t.2 i = nI i) (Q := fun r => ∀ i, i < 12 → r.2.1 i = nI 10 ∧ r.2.2 i = nI i) 12 (fun j t hj ht => by
    have hc : ¬ (12 : Int32) ≤ nI j := nI_ge hj (by decide)
    refine Or.inl ⟨(upd t.1 j (nI 10), upd t.2 j (nI j)), ?_, ?_⟩
    · unfold s_X5_init_156
      dsimp only
      rw [if_neg hc, chk_nI _ hj (by decide), nI_clamp (by omega), nI_1]
      rfl
    · intro i hi
      dsimp only
      by_cases e : i = j
      · subst e
        rw [pk_us, pk_us]
        exact ⟨rfl, rfl⟩
      · rw [pk_un e, pk_un e]
        exact ht i (by omega)) (fun t ht => ⟨(nI 12, t), by
    unfold s_X5_init_156
    dsimp only
    rw [if_pos (by decide)], ht⟩) (fuel := 5000) (j0 := 0) (t0 := ((fun _ => 0), (fun _ => 0))) (by decide) (by decide) (fun i hi => absurd hi (Nat.not_lt_zero i))
  obtain ⟨q, g1, g2⟩ := wh_inv (step := s_X5_init_185) (emb := fun j (t : Nat → Int32) => (nI j, t)) (P := fun j t => ∀ i, i < j → t i = nI 50) (Q := fun r => ∀ i, i < 4 → r.2 i = nI 50) 4 (fun j t hj ht => by
    have hc : ¬ (4 : Int32) ≤ nI j := nI_ge hj (by decide)
    refine Or.inl ⟨upd t j (nI 50), ?_, ?_⟩
    · unfold s_X5_init_185
      dsimp only
      rw [if_neg hc, chk_nI _ hj (by decide), nI_clamp (by omega), nI_1]
      rfl
    · intro i hi
      by_cases e : i = j
      · subst e
        rw [pk_us]
      · rw [pk_un e]
        exact ht i (by omega)) (fun t ht => ⟨(nI 4, t), by
    unfold s_X5_init_185
    dsimp only
    rw [if_pos (by decide)], ht⟩) (fuel := 5000) (j0 := 0) (t0 := (fun _ => 0)) (by decide) (by decide) (fun i hi => absurd hi (Nat.not_lt_zero i))
  have h00 : ∀ j, j < 12 → S00 2 j = j := by decide
  exact ⟨_, (ob_some h1).trans ((ob_some g1).trans rfl), ⟨fun j hj => (h2 j hj).1, fun _ _ => rfl, fun j hj => ((h2 j hj).2).trans (congrArg nI (h00 j hj)).symm, fun j hj => g2 j hj, fun _ _ => rfl, fun _ _ => rfl, rfl, fun _ _ => rfl, fun _ _ => rfl, fun _ _ => rfl, rfl⟩, rfl, fun _ => rfl⟩
theorem copy_XA {S : Nat → Nat → Nat} {vw vk vr vp vb vi vl vg vo : Nat → Int32} {vwc vsc : Int32} (hX : XA S vw vk vr vp vb vi vwc vl vg vo vsc) (uw uk ur up ub ui ul ug uo : Nat → Int32) : ∃ o, f_X3_copyFrom uw uk ur up ub ui ul ug uo vw vk vr vp vb vi vwc vl vg vo vsc = some o ∧ XA S o.1 o.2.1 o.2.2.1 o.2.2.2.1 o.2.2.2.2.1 o.2.2.2.2.2.1 o.2.2.2.2.2.2.1 o.2.2.2.2.2.2.2.1 o.2.2.2.2.2.2.2.2.1 o.2.2.2.2.2.2.2.2.2.1 o.2.2.2.2.2.2.2.2.2.2 := by
  obtain ⟨x0, x1, x2, x3, x4, x5, x6, x7, x8, x9, x10⟩ := hX
  obtain ⟨w, k, r, p, b, i, l, g, o, c1, c2, c3, c4, c5, c6, c7, c8, c9, c10⟩ := copyFrom_N uw uk ur up ub ui ul ug uo vw vk vr vp vb vi vwc vl vg vo vsc
  exact ⟨_, c1, ag_eq x0 c2, ag_eq x1 c3, fun j hj => (c4 j hj).trans (x2 j hj), ag_eq x3 c5, ag_eq x4 c6, ag_eq x5 c7, x6, ag_eq x7 c8, ag_eq x8 c9, ag_eq x9 c10, x10⟩
theorem in01 {k : Nat} (hk : k < 2) : f_X4_isWithin (nI k) 0 1 = 1 := wi_1 (lo := 0) (hi := 1) (Nat.zero_le k) (by omega) (by decide)
theorem image_old_N {S : Nat → Nat → Nat} {vw vk vr vp vb vi vl vg vo : Nat → Int32} {vwc vsc : Int32} (hX : XA S vw vk vr vp vb vi vwc vl vg vo vsc) (uw uk ur up ub ui : Nat → Int32) (uwc : Int32) (ul ug uo : Nat → Int32) (usc : Int32) {k : Nat} (hk : k < 2) : ∃ o, f_X4_image_old vw vk vr vp vb vi vwc vl vg vo vsc uw uk ur up ub ui uwc ul ug uo usc (nI k) = some o ∧ o.1 = 1 ∧ XA S o.2.1 o.2.2.1 o.2.2.2.1 o.2.2.2.2.1 o.2.2.2.2.2.1 o.2.2.2.2.2.2.1 o.2.2.2.2.2.2.2.1 o.2.2.2.2.2.2.2.2.1 o.2.2.2.2.2.2.2.2.2.1 o.2.2.2.2.2.2.2.2.2.2.1 o.2.2.2.2.2.2.2.2.2.2.2 := by
  obtain ⟨o, h1, h2⟩ := copy_XA hX uw uk ur up ub ui ul ug uo
  refine ⟨(1, o), ?_, rfl, h2⟩
  unfold f_X4_image_old
  rw [bd_eq, in01 hk, if_neg one_ne, chk_nI _ hk (by decide), ob_some h1]
theorem image_new_N {S : Nat → Nat → Nat} {vw vk vr vp vb vi vl vg vo : Nat → Int32} {vwc vsc : Int32} (hX : XA S vw vk vr vp vb vi vwc vl vg vo vsc) {k : Nat} (hk : k < 2) : ∃ o, f_X4_image_new vw vk vr vp vb vi vwc vl vg vo vsc (nI k) = some o ∧ o.1 = 1 ∧ XA S o.2.1 o.2.2.1 o.2.2.2.1 o.2.2.2.2.1 o.2.2.2.2.2.1 o.2.2.2.2.2.2.1 o.2.2.2.2.2.2.2.1 o.2.2.2.2.2.2.2.2.1 o.2.2.2.2.2.2.2.2.2.1 o.2.2.2.2.2.2.2.2.2.2.1 o.2.2.2.2.2.2.2.2.2.2.2 := by
  obtain ⟨u, g1, -⟩ := X3_init_N
  obtain ⟨o, h1, h2⟩ := copy_XA hX u.1 u.2.1 u.2.2.1 u.2.2.2.1 u.2.2.2.2.1 u.2.2.2.2.2.1 u.2.2.2.2.2.2.2.1 u.2.2.2.2.2.2.2.2.1 u.2.2.2.2.2.2.2.2.2.1
  refine ⟨(1, o), ?_, rfl, h2⟩
  unfold f_X4_image_new
  rw [bd_eq, chk_nI _ hk (by decide), ob_some g1, ob_some h1]
theorem restore_old_N {S : Nat → Nat → Nat} {vw vk vr vp vb vi vl vg vo : Nat → Int32} {vwc vsc : Int32} (hX : XA S vw vk vr vp vb vi vwc vl vg vo vsc) (uw uk ur up ub ui : Nat → Int32) (uwc : Int32) (ul ug uo : Nat → Int32) (usc : Int32) {k : Nat} (hk : k < 2) : ∃ o, f_X4_restore_old uw uk ur up ub ui uwc ul ug uo usc vw vk vr vp vb vi vwc vl vg vo vsc (nI k) = some o ∧ o.1 = 1 ∧ XA S o.2.1 o.2.2.1 o.2.2.2.1 o.2.2.2.2.1 o.2.2.2.2.2.1 o.2.2.2.2.2.2.1 o.2.2.2.2.2.2.2.1 o.2.2.2.2.2.2.2.2.1 o.2.2.2.2.2.2.2.2.2.1 o.2.2.2.2.2.2.2.2.2.2.1 o.2.2.2.2.2.2.2.2.2.2.2 := by
  obtain ⟨o, h1, h2⟩ := copy_XA hX uw uk ur up ub ui ul ug uo
  refine ⟨(1, o), ?_, rfl, h2⟩
  unfold f_X4_restore_old
  rw [bd_eq, in01 hk, if_neg one_ne, chk_nI _ hk (by decide), ob_some h1]
theorem restore_none_N {k : Nat} (hk : k < 2) : f_X4_restore_none (nI k) = some (-3) := by
  unfold f_X4_restore_none
  rw [bd_eq, in01 hk, if_neg one_ne, chk_nI _ hk (by decide)]
theorem image_M {S : Nat → Nat → Nat} {mw mkd mr mp mb mi ml mg mo : Nat → Int32} {mwc msc : Int32} (hM : MA S mw mkd mr mp mb mi mwc ml mg mo msc) (kept isk : Nat → Int32) (kat isw : Int32) {k : Nat} (hk : k < 2) : ∃ o, f_X5_image mw mkd mr mp mb mi mwc ml mg mo msc kept isk kat isw (nI k) = some o ∧ o.1 = 1 ∧ MA S o.2.1 o.2.2.1 o.2.2.2.1 o.2.2.2.2.1 o.2.2.2.2.2.1 o.2.2.2.2.2.2.1 o.2.2.2.2.2.2.2.1 o.2.2.2.2.2.2.2.2.1 o.2.2.2.2.2.2.2.2.2.1 o.2.2.2.2.2.2.2.2.2.2.1 o.2.2.2.2.2.2.2.2.2.2.2.1 ∧ KM S (90 * k) o.2.2.2.2.2.2.2.2.2.2.2.2.1 ∧ (∀ i, (i < 90 * k ∨ 90 * k + 72 ≤ i) → o.2.2.2.2.2.2.2.2.2.2.2.2.1 i = kept i) ∧ o.2.2.2.2.2.2.2.2.2.2.2.2.2.1 k = 1 ∧ ∀ i, i ≠ k → o.2.2.2.2.2.2.2.2.2.2.2.2.2.1 i = isk i := by
  have e : f_X5_in (nI k).toInt64 0 1 = 1 := (in_eq (by decide) (by decide)).trans (in01 hk)
  obtain ⟨o, h1, h2, h3, h4⟩ := passAll_W hM kept (c := 90 * k) (by omega)
  refine ⟨(1, o.1, o.2.1, o.2.2.1, o.2.2.2.1, o.2.2.2.2.1, o.2.2.2.2.2.1, o.2.2.2.2.2.2.1, o.2.2.2.2.2.2.2.1, o.2.2.2.2.2.2.2.2.1, o.2.2.2.2.2.2.2.2.2.1, o.2.2.2.2.2.2.2.2.2.2.1, o.2.2.2.2.2.2.2.2.2.2.2.1, upd isk k (vp_nar .boolean 1), o.2.2.2.2.2.2.2.2.2.2.2.2, 1), ?_, rfl, h2, h3, h4, ?_, fun i hi => pk_un hi⟩
  · unfold f_X5_image
    rw [bd_eq, e, if_neg one_ne, show (90 : Int32) * nI k = nI (90 * k) from pk_mul 90 k, ob_some h1, chk_nI _ hk (by decide), nI_clamp (by omega)]
  · exact pk_us.trans rfl
theorem restore_M {S : Nat → Nat → Nat} {mw mkd mr mp mb mi ml mg mo : Nat → Int32} {mwc msc : Int32} {kept isk : Nat → Int32} (kat isw : Int32) {k : Nat} (hk : k < 2) (h : KM S (90 * k) kept) (hi : ¬ isk k = 0) : ∃ o, f_X5_restore mw mkd mr mp mb mi mwc ml mg mo msc kept isk kat isw (nI k) = some o ∧ o.1 = 1 ∧ MA S o.2.1 o.2.2.1 o.2.2.2.1 o.2.2.2.2.1 o.2.2.2.2.2.1 o.2.2.2.2.2.2.1 o.2.2.2.2.2.2.2.1 o.2.2.2.2.2.2.2.2.1 o.2.2.2.2.2.2.2.2.2.1 o.2.2.2.2.2.2.2.2.2.2.1 o.2.2.2.2.2.2.2.2.2.2.2.1 ∧ ∀ i, o.2.2.2.2.2.2.2.2.2.2.2.2.1 i = kept i := by
  have e : f_X5_in (nI k).toInt64 0 1 = 1 := (in_eq (by decide) (by decide)).trans (in01 hk)
  obtain ⟨o, h1, h2, h3⟩ := passAll_R (mw := mw) (mkd := mkd) (mr := mr) (mp := mp) (mb := mb) (mi := mi) (mwc := mwc) (ml := ml) (mg := mg) (mo := mo) (msc := msc) h (by omega)
  refine ⟨(1, o.1, o.2.1, o.2.2.1, o.2.2.2.1, o.2.2.2.2.1, o.2.2.2.2.2.1, o.2.2.2.2.2.2.1, o.2.2.2.2.2.2.2.1, o.2.2.2.2.2.2.2.2.1, o.2.2.2.2.2.2.2.2.2.1, o.2.2.2.2.2.2.2.2.2.2.1, o.2.2.2.2.2.2.2.2.2.2.2.1, o.2.2.2.2.2.2.2.2.2.2.2.2, 0), ?_, rfl, h2, h3⟩
  unfold f_X5_restore
  rw [bd_eq, e, if_neg one_ne, chk_nI _ hk (by decide), nI_clamp (show k < 2 ^ 31 by omega), if_neg hi, show (90 : Int32) * nI k = nI (90 * k) from pk_mul 90 k, ob_some h1]
theorem restore_M0 (mw mkd mr mp mb mi : Nat → Int32) (mwc : Int32) (ml mg mo : Nat → Int32) (msc : Int32) (kept : Nat → Int32) {isk : Nat → Int32} (kat isw : Int32) {k : Nat} (hk : k < 2) (hi : isk k = 0) : f_X5_restore mw mkd mr mp mb mi mwc ml mg mo msc kept isk kat isw (nI k) = some (-3, mw, mkd, mr, mp, mb, mi, mwc, ml, mg, mo, msc, kept, kat, isw) := by
  have e : f_X5_in (nI k).toInt64 0 1 = 1 := (in_eq (by decide) (by decide)).trans (in01 hk)
  unfold f_X5_restore
  rw [bd_eq, e, if_neg one_ne, chk_nI _ hk (by decide), nI_clamp (show k < 2 ^ 31 by omega), if_pos hi]
theorem X4_init_N : ∃ o, f_X4_init = some o ∧ o.1 = 0 ∧ XA S00 o.2.1 o.2.2.1 o.2.2.2.1 o.2.2.2.2.1 o.2.2.2.2.2.1 o.2.2.2.2.2.2.1 o.2.2.2.2.2.2.2.1 o.2.2.2.2.2.2.2.2.1 o.2.2.2.2.2.2.2.2.2.1 o.2.2.2.2.2.2.2.2.2.2.1 o.2.2.2.2.2.2.2.2.2.2.2.1 ∧ RD o.2.2.2.2.2.2.2.2.2.2.2.2.2.2.2.2.2.2.2.2.2.2.2.2.2.2.2.2.2.2.2.2.2.2.2.2.2.2.2.2.2.2.2.2.2.1 o.2.2.2.2.2.2.2.2.2.2.2.2.2.2.2.2.2.2.2.2.2.2.2.2.2.2.2.2.2.2.2.2.2.2.2.2.2.2.2.2.2.2.2.2.2.2.1 o.2.2.2.2.2.2.2.2.2.2.2.2.2.2.2.2.2.2.2.2.2.2.2.2.2.2.2.2.2.2.2.2.2.2.2.2.2.2.2.2.2.2.2.2.2.2.2.1 := by
  obtain ⟨u, h1, h2⟩ := X3_init_N
  obtain ⟨q, g1, g2⟩ : ∃ q, f_X1_init = some q ∧ RD q.2.2.2.2.2.2.2.2.2.2.2.2.2.2.2.2.2.2.2.2.2.1 q.2.2.2.2.2.2.2.2.2.2.2.2.2.2.2.2.2.2.2.2.2.2.1 q.2.2.2.2.2.2.2.2.2.2.2.2.2.2.2.2.2.2.2.2.2.2.2.1 := ⟨_, (ob_some h1).trans rfl, ⟨0, 0, 0, by decide, by decide, by decide, rfl, rfl, rfl⟩⟩
  exact ⟨_, (ob_some h1).trans ((ob_some h1).trans ((ob_some g1).trans rfl)), rfl, h2, g2⟩
theorem image_Mout {S : Nat → Nat → Nat} {mw mkd mr mp mb mi ml mg mo : Nat → Int32} {mwc msc : Int32} (hM : MA S mw mkd mr mp mb mi mwc ml mg mo msc) (kept isk : Nat → Int32) (kat isw : Int32) {p : Int32} (hp : f_X4_isWithin p 0 1 = 0) : ∃ o, f_X5_image mw mkd mr mp mb mi mwc ml mg mo msc kept isk kat isw p = some o ∧ o.1 = -2 ∧ MA S o.2.1 o.2.2.1 o.2.2.2.1 o.2.2.2.2.1 o.2.2.2.2.2.1 o.2.2.2.2.2.2.1 o.2.2.2.2.2.2.2.1 o.2.2.2.2.2.2.2.2.1 o.2.2.2.2.2.2.2.2.2.1 o.2.2.2.2.2.2.2.2.2.2.1 o.2.2.2.2.2.2.2.2.2.2.2.1 ∧ (∀ i, o.2.2.2.2.2.2.2.2.2.2.2.2.1 i = kept i) ∧ ∀ i, o.2.2.2.2.2.2.2.2.2.2.2.2.2.1 i = isk i := by
  have e : f_X5_in p.toInt64 0 1 = 0 := (in_eq (by decide) (by decide)).trans hp
  exact ⟨(-2, mw, mkd, mr, mp, mb, mi, mwc, ml, mg, mo, msc, kept, isk, kat, isw), if_pos e, rfl, hM, fun _ => rfl, fun _ => rfl⟩
theorem restore_Mout {S : Nat → Nat → Nat} {mw mkd mr mp mb mi ml mg mo : Nat → Int32} {mwc msc : Int32} (hM : MA S mw mkd mr mp mb mi mwc ml mg mo msc) (kept isk : Nat → Int32) (kat isw : Int32) {p : Int32} (hp : f_X4_isWithin p 0 1 = 0) : ∃ o, f_X5_restore mw mkd mr mp mb mi mwc ml mg mo msc kept isk kat isw p = some o ∧ o.1 = -2 ∧ MA S o.2.1 o.2.2.1 o.2.2.2.1 o.2.2.2.2.1 o.2.2.2.2.2.1 o.2.2.2.2.2.2.1 o.2.2.2.2.2.2.2.1 o.2.2.2.2.2.2.2.2.1 o.2.2.2.2.2.2.2.2.2.1 o.2.2.2.2.2.2.2.2.2.2.1 o.2.2.2.2.2.2.2.2.2.2.2.1 ∧ ∀ i, o.2.2.2.2.2.2.2.2.2.2.2.2.1 i = kept i := by
  have e : f_X5_in p.toInt64 0 1 = 0 := (in_eq (by decide) (by decide)).trans hp
  exact ⟨(-2, mw, mkd, mr, mp, mb, mi, mwc, ml, mg, mo, msc, kept, kat, isw), if_pos e, rfl, hM, fun _ => rfl⟩
theorem restore_Mnone {S : Nat → Nat → Nat} {mw mkd mr mp mb mi ml mg mo : Nat → Int32} {mwc msc : Int32} (hM : MA S mw mkd mr mp mb mi mwc ml mg mo msc) (kept : Nat → Int32) {isk : Nat → Int32} (kat isw : Int32) {k : Nat} (hk : k < 2) (hi : isk k = 0) : ∃ o, f_X5_restore mw mkd mr mp mb mi mwc ml mg mo msc kept isk kat isw (nI k) = some o ∧ o.1 = -3 ∧ MA S o.2.1 o.2.2.1 o.2.2.2.1 o.2.2.2.2.1 o.2.2.2.2.2.1 o.2.2.2.2.2.2.1 o.2.2.2.2.2.2.2.1 o.2.2.2.2.2.2.2.2.1 o.2.2.2.2.2.2.2.2.2.1 o.2.2.2.2.2.2.2.2.2.2.1 o.2.2.2.2.2.2.2.2.2.2.2.1 ∧ ∀ i, o.2.2.2.2.2.2.2.2.2.2.2.2.1 i = kept i :=
  ⟨(-3, mw, mkd, mr, mp, mb, mi, mwc, ml, mg, mo, msc, kept, kat, isw), restore_M0 mw mkd mr mp mb mi mwc ml mg mo msc kept kat isw hk hi, rfl, hM, fun _ => rfl⟩
