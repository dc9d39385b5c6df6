/-! the model's rows put by and taken back; a year -/
theorem keepNow_N (mw mp mb had : Nat → Int32) : ∃ h', f_X5_keepNow mw mp mb had = some h' ∧ (∀ j, j < 12 → h' j = mw j) ∧ (∀ j, j < 4 → h' (12 + j) = mp j) ∧ ∀ j, j < 4 → h' (16 + j) = mb j := by
  obtain ⟨r1, g1, g2⟩ := wh_inv (step := s_X5_keepNow_2 mw) (emb := fun j (t : Nat → Int32) => (nI j, t)) (P := fun j t => ∀ x, x < j → t x = mw x) (Q := fun r => ∀ x, x < 12 → r.2 x = mw x) 12 (fun j t hj ht => Or.inl ⟨upd t j (mw j), by
    have hc : ¬ (12 : Int32) ≤ nI j := nI_ge hj (by decide)
    unfold s_X5_keepNow_2
    dsimp only
    rw [if_neg hc, chk_nI _ hj (by decide), chk_nI (n := 20) _ (by omega) (by decide), nI_1, nI_clamp (by omega)], fun x hx => by
    by_cases e : x = j
    · subst e; rw [pk_us]
    · rw [pk_un e]; exact ht x (by omega)⟩) (fun t ht => ⟨(nI 12, t), by
    unfold s_X5_keepNow_2
    dsimp only
    rw [if_pos (by decide)], ht⟩) (fuel := 5000) (j0 := 0) (t0 := had) (by decide) (by decide) (fun x hx => absurd hx (Nat.not_lt_zero x))
  obtain ⟨r2, g3, g4, g5, g6⟩ := wh_inv (step := s_X5_keepNow_28 mp mb) (emb := fun j (t : Nat → Int32) => (nI j, t)) (P := fun j t => (∀ x, x < 12 → t x = mw x) ∧ (∀ x, x < j → t (12 + x) = mp x) ∧ ∀ x, x < j → t (16 + x) = mb x) (Q := fun r => (∀ x, x < 12 → r.2 x = mw x) ∧ (∀ x, x < 4 → r.2 (12 + x) = mp x) ∧ ∀ x, x < 4 → r.2 (16 + x) = mb x) 4 (fun j t hj ht => Or.inl ⟨upd (upd t (12 + j) (mp j)) (16 + j) (mb j), by
    have hc : ¬ (4 : Int32) ≤ nI j := nI_ge hj (by decide)
    unfold s_X5_keepNow_28
    dsimp only
    rw [if_neg hc, chk_nI _ hj (by decide), show (12 : Int32) + nI j = nI (12 + j) from nI_add 12 j, show (16 : Int32) + nI j = nI (16 + j) from nI_add 16 j, chk_nI _ (by omega) (by decide), chk_nI _ (by omega) (by decide), nI_1, nI_clamp (n := j) (by omega), nI_clamp (n := 12 + j) (by omega), nI_clamp (n := 16 + j) (by omega)], fun x hx => by
    rw [pk_un (by omega), pk_un (by omega)]; exact ht.1 x hx, fun x hx => by
    rw [pk_un (by omega)]
    by_cases e : x = j
    · subst e; rw [pk_us]
    · rw [pk_un (by omega)]; exact ht.2.1 x (by omega), fun x hx => by
    by_cases e : x = j
    · subst e; rw [pk_us]
    · rw [pk_un (by omega), pk_un (by omega)]; exact ht.2.2 x (by omega)⟩) (fun t ht => ⟨(nI 4, t), by
    unfold s_X5_keepNow_28
    dsimp only
    rw [if_pos (by decide)], ht⟩) (fuel := 5000) (j0 := 0) (t0 := r1.2) (by decide) (by decide) ⟨g2, fun x hx => absurd hx (Nat.not_lt_zero x), fun x hx => absurd hx (Nat.not_lt_zero x)⟩
  exact ⟨r2.2, (ob_some g1).trans (ob_some g3), g4, g5, g6⟩
theorem back_N (mw mp mb had : Nat → Int32) (v : Int32) : ∃ w' p' b', f_X5_back mw mp mb had v = some (v, w', p', b') ∧ (∀ j, j < 12 → w' j = had j) ∧ (∀ j, j < 4 → p' j = had (12 + j)) ∧ ∀ j, j < 4 → b' j = had (16 + j) := by
  obtain ⟨r1, g1, g2⟩ := wh_inv (step := s_X5_back_2 had) (emb := fun j (t : Nat → Int32) => (nI j, t)) (P := fun j t => ∀ x, x < j → t x = had x) (Q := fun r => ∀ x, x < 12 → r.2 x = had x) 12 (fun j t hj ht => Or.inl ⟨upd t j (had j), by
    have hc : ¬ (12 : Int32) ≤ nI j := nI_ge hj (by decide)
    unfold s_X5_back_2
    dsimp only
    rw [if_neg hc, chk_nI (n := 20) _ (by omega) (by decide), chk_nI _ hj (by decide), nI_1, nI_clamp (by omega)], fun x hx => by
    by_cases e : x = j
    · subst e; rw [pk_us]
    · rw [pk_un e]; exact ht x (by omega)⟩) (fun t ht => ⟨(nI 12, t), by
    unfold s_X5_back_2
    dsimp only
    rw [if_pos (by decide)], ht⟩) (fuel := 5000) (j0 := 0) (t0 := mw) (by decide) (by decide) (fun x hx => absurd hx (Nat.not_lt_zero x))
  obtain ⟨r2, g3, g4, g5⟩ := wh_inv (step := s_X5_back_28 had) (emb := fun j (t : (Nat → Int32) × (Nat → Int32)) => (nI j, t.1, t.2)) (P := fun j t => (∀ x, x < j → t.2 x = had (12 + x)) ∧ ∀ x, x < j → t.1 x = had (16 + x)) (Q := fun r => (∀ x, x < 4 → r.2.2 x = had (12 + x)) ∧ ∀ x, x < 4 → r.2.1 x = had (16 + x)) 4 (fun j t hj ht => Or.inl ⟨(upd t.1 j (had (16 + j)), upd t.2 j (had (12 + j))), by
    have hc : ¬ (4 : Int32) ≤ nI j := nI_ge hj (by decide)
    unfold s_X5_back_28
    dsimp only
    rw [if_neg hc, chk_nI _ hj (by decide), show (12 : Int32) + nI j = nI (12 + j) from nI_add 12 j, show (16 : Int32) + nI j = nI (16 + j) from nI_add 16 j, chk_nI _ (by omega) (by decide), chk_nI _ (by omega) (by decide), nI_1, nI_clamp (n := j) (by omega), nI_clamp (n := 12 + j) (by omega), nI_clamp (n := 16 + j) (by omega)], fun x hx => by
    show upd t.2 j (had (12 + j)) x = _
    by_cases e : x = j
    · subst e; rw [pk_us]
    · rw [pk_un e]; exact ht.1 x (by omega), fun x hx => by
    show upd t.1 j (had (16 + j)) x = _
    by_cases e : x = j
    · subst e; rw [pk_us]
    · rw [pk_un e]; exact ht.2 x (by omega)⟩) (fun t ht => ⟨(nI 4, t.1, t.2), by
    unfold s_X5_back_28
    dsimp only
    rw [if_pos (by decide)], ht⟩) (fuel := 5000) (j0 := 0) (t0 := (mb, mp)) (by decide) (by decide) ⟨fun x hx => absurd hx (Nat.not_lt_zero x), fun x hx => absurd hx (Nat.not_lt_zero x)⟩
  exact ⟨r1.2, r2.2.2, r2.2.1, (ob_some g1).trans (ob_some g3), g2, g4, g5⟩
theorem sumOf_N {f : Nat → Int32} {g : Nat → Nat} {n : Nat} (h : ag n f g) (hn : n ≤ 100) : f_X4_sumOf n f = some (nI (sm g n)) := by
  obtain ⟨r, h1, h2⟩ := wh_inv (step := s_X4_sumOf_4 n f) (emb := fun j (t : Nat) => (nI t, nI j)) (P := fun j t => t = sm g j) (Q := fun r => r.1 = nI (sm g n)) n (fun j t hj ht => Or.inl ⟨sm g (j + 1), by
    have hc : ¬ Int32.ofNat n ≤ nI j := nI_ge hj (by omega)
    unfold s_X4_sumOf_4
    dsimp only
    rw [if_neg hc, chk_nI _ hj (by omega), h.at hj (by omega), nI_1, nI_add, sm_succ, ht], rfl⟩) (fun t ht => ⟨(nI t, nI n), by
    unfold s_X4_sumOf_4
    dsimp only
    rw [if_pos (show Int32.ofNat n ≤ nI n from nI_le (Nat.le_refl n) (by omega))], by dsimp only; rw [ht]⟩) (fuel := 5000) (j0 := 0) (t0 := 0) (by omega) (by omega) rfl
  refine (ob_some h1).trans ?_
  rw [h2]
theorem countB_N {f : Nat → Int32} {b : Nat → Nat} (h : ag 4 f b) (hb : ∀ j, b j < 4096) : f_X3_countBelongings f = some (nI (sm (fun j => pc (b j)) 4)) := by
  obtain ⟨r, h1, h2⟩ := wh_inv (step := s_X3_countBelongings_4 f) (emb := fun j (t : Nat) => (nI t, nI j)) (P := fun j t => t = sm (fun j => pc (b j)) j) (Q := fun r => r.1 = nI (sm (fun j => pc (b j)) 4)) 4 (fun j t hj ht => Or.inl ⟨sm (fun j => pc (b j)) (j + 1), by
    have hc : ¬ (4 : Int32) ≤ nI j := nI_ge hj (by decide)
    unfold s_X3_countBelongings_4
    dsimp only
    rw [if_neg hc, chk_nI _ hj (by decide), h.at hj (by decide), bd_eq, bitCount_N (hb j), nI_1, nI_add, sm_succ, ht], rfl⟩) (fun t ht => ⟨(nI t, nI 4), by
    unfold s_X3_countBelongings_4
    dsimp only
    rw [if_pos (by decide)], by dsimp only; rw [ht]⟩) (fuel := 5000) (j0 := 0) (t0 := 0) (by decide) (by decide) rfl
  refine (ob_some h1).trans ?_
  rw [h2]
theorem wsum_all (w : Nat → Nat) : wsum w 4095 12 = sm w 12 := by
  have key : ∀ n, n ≤ 12 → wsum w 4095 n = sm w n := by
    intro n
    induction n with
    | zero => intro _; rfl
    | succ n ih =>
      intro hn
      have : (4095 : Nat).testBit n = true := by
        have : (4095 : Nat) = 2 ^ 12 - 1 := rfl
        rw [this, Nat.testBit_two_pow_sub_one]
        simp
        omega
      rw [wsum_t this, ih (by omega), sm_succ]
  exact key 12 (Nat.le_refl 12)
def da (y : Nat) : Nat := if y ≤ 1 then 0 else if y ≤ 3 then 2 else if y = 4 then 1 else 3
theorem da_all : ∀ y, y < 6 → f_X3_drawnAct (nI y) = nI (da y) ∧ f_X5_actBy (nI y) = nI (da y) ∧ da y ≤ 3 := by decide +kernel
theorem year_two {vw vp vb mw mkd mp mb : Nat → Int32} {w kd p b : Nat → Nat} (xw : ag 12 vw w) (xp : ag 4 vp p) (xb : ag 4 vb b) (yw : ag 12 mw w) (yk : ag 12 mkd kd) (yp : ag 4 mp p) (yb : ag 4 mb b) (bw : ∀ j, w j ≤ 99) (bp : ∀ j, p j ≤ 999) (bb : ∀ j, b j < 4096) {s m : Nat} (hs : s ≤ 9999) (hm : m ≤ 99) (en he hw om pl sp : Int32) :
    ∃ r r', wh (s_X3_liveYear_5 (nI m)) 5000 (nI s, 0, vb, vp, vw) = some r ∧ wh (s_X5_year_53 mkd (nI m)) 5000 (nI s, 0, en, mb, he, hw, om, pl, mp, sp, mw) = some r' ∧ ∃ w p b, (∀ j, w j ≤ 99) ∧ (∀ j, p j ≤ 999) ∧ (∀ j, b j < 4096) ∧ ag 12 r.2.2.2.2 w ∧ ag 4 r.2.2.2.1 p ∧ ag 4 r.2.2.1 b ∧ ag 12 r'.2.2.2.2.2.2.2.2.2.2 w ∧ ag 4 r'.2.2.2.2.2.2.2.2.1 p ∧ ag 4 r'.2.2.2.1 b :=
  wh_two (f := s_X3_liveYear_5 (nI m)) (g := s_X5_year_53 mkd (nI m)) (τ := Nat × ((Nat → Int32) × (Nat → Int32) × (Nat → Int32)) × (Int32 × (Nat → Int32) × Int32 × Int32 × Int32 × Int32 × (Nat → Int32) × Int32 × (Nat → Int32))) (fun j t => (nI t.1, nI j, t.2.1)) (fun j t => (nI t.1, nI j, t.2.2)) (fun _ t => t.1 < 65537 ∧ ∃ w p b, (∀ j, w j ≤ 99) ∧ (∀ j, p j ≤ 999) ∧ (∀ j, b j < 4096) ∧ ag 12 t.2.1.2.2 w ∧ ag 4 t.2.1.2.1 p ∧ ag 4 t.2.1.1 b ∧ ag 12 t.2.2.2.2.2.2.2.2.2.2 w ∧ ag 4 t.2.2.2.2.2.2.2.2.1 p ∧ ag 4 t.2.2.2.1 b) _ m (fun j t hj ht => by
    obtain ⟨hn, w, p, b, bw, bp, bb, a1, a2, a3, a4, a5, a6⟩ := ht
    obtain ⟨n, ⟨tb, tp, tw⟩, en, mb, he, hwt, om, pl, mp, sp, mw⟩ := t
    dsimp only at hn a1 a2 a3 a4 a5 a6 ⊢
    have hc : ¬ nI m ≤ nI j := nI_ge hj (by omega)
    have hX : (75 * nI n + 74) - (75 * nI n + 74) / 65537 * 65537 = nI ((75 * n + 74) % 65537) := by
      rw [show (75 : Int32) * nI n + 74 = nI (75 * n + 74) by rw [show (75 : Int32) * nI n = nI (75 * n) from pk_mul 75 n]; exact nI_add _ 74]
      exact pk_rem (d := 65537) (by omega) (by decide) (by decide)
    have hM : ((75 * (nI n).toInt64 + 74) - (75 * (nI n).toInt64 + 74) / 65537 * 65537).toInt32 = nI ((75 * n + 74) % 65537) := by
      rw [nI_l (by omega), show (75 : Int64) * lN n + 74 = lN (75 * n + 74) by rw [show (75 : Int64) * lN n = lN (75 * n) from lN_mul 75 n]; exact lN_add _ 74]
      rw [show lN (75 * n + 74) - lN (75 * n + 74) / 65537 * 65537 = lN ((75 * n + 74) % 65537) from pk_lRem (b := 65537) (by omega) (by decide) (by decide), lN_i]
    have hx : (75 * n + 74) % 65537 < 65537 := Nat.mod_lt _ (by decide)
    unfold s_X3_liveYear_5 s_X5_year_53
    dsimp only
    rw [if_neg hc, if_neg hc, hX, hM]
    generalize (75 * n + 74) % 65537 = x at hx
    have q1 : nI x / 48 = nI (x / 48) := pk_div (d := 48) (by omega) (by decide) (by decide)
    have q2 : nI (x / 48) - nI (x / 48) / 6 * 6 = nI (x / 48 % 6) := pk_rem (d := 6) (by omega) (by decide) (by decide)
    have q3 : nI x - nI x / 4 * 4 = nI (x % 4) := pk_rem (d := 4) (by omega) (by decide) (by decide)
    have q4 : nI x / 4 = nI (x / 4) := pk_div (d := 4) (by omega) (by decide) (by decide)
    have q5 : nI (x / 4) - nI (x / 4) / 12 * 12 = nI (x / 4 % 12) := pk_rem (d := 12) (by omega) (by decide) (by decide)
    have q6 : nI x / 288 = nI (x / 288) := pk_div (d := 288) (by omega) (by decide) (by decide)
    have q7 : nI (x / 288) - nI (x / 288) / 4 * 4 = nI (x / 288 % 4) := pk_rem (d := 4) (by omega) (by decide) (by decide)
    obtain ⟨d1, d2, d3⟩ := da_all (x / 48 % 6) (Nat.mod_lt _ (by decide))
    rw [q3, q1, q2, q4, q5, q6, q7, bd_eq, bd_eq, d1, d2, nI_1]
    obtain ⟨w', p', b', g1, g2, g3⟩ := perform_N a1 a2 a3 bw bp bb d3 (k := x % 4) (d := x / 4 % 12) (o := x / 288 % 4) (Nat.mod_lt _ (by decide)) (Nat.mod_lt _ (by decide)) (Nat.mod_lt _ (by decide))
    rw [ob_some g1, ob_some (whyNot_N a4 a5 a6 bw bp bb pl d3 (k := x % 4) (d := x / 4 % 12) (o := x / 288 % 4) (Nat.mod_lt _ (by decide)) (Nat.mod_lt _ (by decide)) (Nat.mod_lt _ (by decide)))]
    have wl := whyA_le w p b (da (x / 48 % 6)) (x % 4) (x / 4 % 12) (x / 288 % 4)
    by_cases hy : whyA w p b (da (x / 48 % 6)) (x % 4) (x / 4 % 12) (x / 288 % 4) = 0
    · obtain ⟨mw', mp', mb', h1, h2, h3, h4⟩ := happen_N a4 yk a5 a6 bw bp bb pl om en sp he hwt d3 (k := x % 4) (d := x / 4 % 12) (o := x / 288 % 4) (Nat.mod_lt _ (by decide)) (Nat.mod_lt _ (by decide)) (Nat.mod_lt _ (by decide)) hy
      obtain ⟨i1, i2, i3⟩ := g2 hy
      rw [if_pos (by rw [hy]; rfl), ob_some h1]
      exact ⟨(x, (b', p', w'), _, mb', _, _, _, _, mp', _, mw'), rfl, rfl, hx, _, _, _, wA_le bw, pA_le bp hy, bA_lt bb (Nat.mod_lt _ (by decide)), i1, i2, i3, h2, h3, h4⟩
    · obtain ⟨i1, i2, i3⟩ := g3 hy
      rw [if_neg (neL (L := 0) (b := 0) rfl hy (by omega) (by decide)), i1, i2, i3]
      exact ⟨(x, (tb, tp, tw), en, mb, he, hwt, om, pl, mp, sp, mw), rfl, rfl, hx, w, p, b, bw, bp, bb, a1, a2, a3, a4, a5, a6⟩) (fun t ht => by
    obtain ⟨hn, ht⟩ := ht
    refine ⟨(nI t.1, nI m, t.2.1), (nI t.1, nI m, t.2.2), ?_, ?_, ht⟩
    · unfold s_X3_liveYear_5
      dsimp only
      rw [if_pos (nI_le (Nat.le_refl m) (by omega))]
    · unfold s_X5_year_53
      dsimp only
      rw [if_pos (nI_le (Nat.le_refl m) (by omega))]) (fuel := 5000) (fuel' := 5000) (j0 := 0) (s, (vb, vp, vw), en, mb, he, hw, om, pl, mp, sp, mw) (by omega) (by omega) (by omega) ⟨by show s < 65537; omega, w, p, b, bw, bp, bb, xw, xp, xb, yw, yp, yb⟩
