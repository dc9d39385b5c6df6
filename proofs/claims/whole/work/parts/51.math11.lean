/-! the answer of a year -/
theorem yearSum_N {mp mb : Nat → Int32} {p b : Nat → Nat} (hp : ag 4 mp p) (hb : ag 4 mb b) (bb : ∀ j, b j < 4096) (p2 : Int32) : ∃ r, wh (s_X5_year_154 p2 mb mp) 5000 (0, 0) = some r ∧ r.1 = nI (sm (fun j => if p2 = 0 then p j else if p2 = 2 then pc (b j) else 0) 4) :=
  wh_inv (step := s_X5_year_154 p2 mb mp) (emb := fun j (t : Nat) => (nI t, nI j)) (P := fun j t => t = sm (fun j => if p2 = 0 then p j else if p2 = 2 then pc (b j) else 0) j) (Q := fun r => r.1 = nI (sm (fun j => if p2 = 0 then p j else if p2 = 2 then pc (b j) else 0) 4)) 4 (fun j t hj ht => Or.inl ⟨sm (fun j => if p2 = 0 then p j else if p2 = 2 then pc (b j) else 0) (j + 1), by
    have hc : ¬ (4 : Int32) ≤ nI j := nI_ge hj (by decide)
    unfold s_X5_year_154
    dsimp only
    rw [if_neg hc, chk_nI _ hj (by decide), chk_nI _ hj (by decide), hp.at hj (by decide), hb.at hj (by decide), ob_some (ones_N (bb j)), nI_1, nI_add, sm_succ, ← ht, nI_add, show nI t + 0 = nI t from nI_add t 0]
    by_cases q : p2 = 0
    · rw [if_pos q, if_pos q]
    · rw [if_neg q, if_neg q]
      by_cases q2 : p2 = 2
      · rw [if_pos q2, if_pos q2]
      · rw [if_neg q2, if_neg q2]; rfl, rfl⟩) (fun t ht => ⟨(nI t, nI 4), by
    unfold s_X5_year_154
    dsimp only
    rw [if_pos (by decide)], by dsimp only; rw [ht]⟩) (fuel := 5000) (j0 := 0) (t0 := 0) (by decide) (by decide) rfl
theorem ag_eq {n : Nat} {f g : Nat → Int32} {h : Nat → Nat} (a : ag n g h) (e : ∀ j, j < n → f j = g j) : ag n f h := fun j hj => (e j hj).trans (a j hj)
theorem t_year {S : Nat → Nat → Nat} (ok : okS S) {vw vk vr vp vb vi vl vg vo : Nat → Int32} {vwc vsc : Int32} {mw mkd mr mp mb mi ml mg mo : Nat → Int32} {mwc msc : Int32} (hX : XA S vw vk vr vp vb vi vwc vl vg vo vsc) (hM : MA S mw mkd mr mp mb mi mwc ml mg mo msc) (vwy vky vry vpy vby viy : Nat → Int32) (vwcy : Int32) (vly vgy voy : Nat → Int32) (vscy : Int32) (pl om en sp he hw : Int32) (had : Nat → Int32) (p0 p1 p2 : Int32) :
    ∃ o o', f_X4_year vw vk vr vp vb vi vwc vl vg vo vsc vwy vky vry vpy vby viy vwcy vly vgy voy vscy p0 p1 p2 = some o ∧ f_X5_year mw mkd mp mb pl om en sp he hw had p0 p1 p2 = some o' ∧ o.1 = o'.1 ∧ MA S o'.2.1 mkd mr o'.2.2.1 o'.2.2.2.1 mi mwc ml mg mo msc := by
  have e0 : f_X5_in p0.toInt64 0 9999 = f_X4_isWithin p0 0 9999 := in_eq (by decide) (by decide)
  have e1 : f_X5_in p1.toInt64 1 99 = f_X4_isWithin p1 1 99 := in_eq (by decide) (by decide)
  have e2 : f_X5_in p2.toInt64 0 2 = f_X4_isWithin p2 0 2 := in_eq (by decide) (by decide)
  have hM0 := hM
  obtain ⟨x0, x1, x2, x3, x4, x5, x6, x7, x8, x9, x10⟩ := hX
  obtain ⟨y0, y1, y2, y3, y4, y5, y6, y7, y8, y9, y10⟩ := hM
  obtain ⟨k0, k1, k2, k3, k4, k5, k6, k7, k8, k9, k10⟩ := ok
  unfold f_X4_year f_X5_year
  simp only [bd_eq, e0, e1, e2]
  rcases wi_L p0 0 9999 0 9999 rfl rfl (by decide) (by decide) with h | ⟨h, s, -, hs, rfl⟩
  · refine ⟨_, _, if_pos h, if_pos h, rfl, hM0⟩
  · rw [h, if_neg one_ne, if_neg one_ne]
    rcases wi_L p1 1 99 1 99 rfl rfl (by decide) (by decide) with h1 | ⟨h1, m, -, hm, rfl⟩
    · refine ⟨_, _, if_pos h1, if_pos h1, rfl, hM0⟩
    · rw [h1, if_neg one_ne, if_neg one_ne]
      rcases wi_L p2 0 2 0 2 rfl rfl (by decide) (by decide) with h2 | ⟨h2, d, -, hd, rfl⟩
      · refine ⟨_, _, if_pos h2, if_pos h2, rfl, hM0⟩
      · rw [h2, if_neg one_ne, if_neg one_ne]
        obtain ⟨w, k, r, p, b, i, l, g, o, c1, c2, c3, c4, c5, c6, c7⟩ := copyFrom_N vwy vky vry vpy vby viy vly vgy voy vw vk vr vp vb vi vwc vl vg vo vsc
        obtain ⟨hd', g1, g2, g3, g4⟩ := keepNow_N mw mp mb had
        rw [ob_some c1, ob_some g1]
        dsimp only
        obtain ⟨r, r', q1, q2, w1, p1, b1, bw, bp, bb, a1, a2, a3, a4, a5, a6⟩ := year_two (ag_eq x0 c2) (ag_eq x3 c5) (ag_eq x4 c6) y0 y1 y3 y4 k0 k3 k4 hs hm f_X5_beginCount.2.2.1 f_X5_beginCount.2.2.2.2.1 f_X5_beginCount.2.2.2.2.2 f_X5_beginCount.2.1 f_X5_beginCount.1 f_X5_beginCount.2.2.2.1
        have hL : f_X3_liveYear w p b (nI s) (nI m) = some (r.2.2.2.2, r.2.2.2.1, r.2.2.1) := ob_some q1
        obtain ⟨t, q3, q4⟩ := yearSum_N a5 a6 bb (nI d)
        rw [ob_some hL, ob_some q2, ob_some q3]
        dsimp only
        rw [ob_some (countB_N a3 bb), ob_some (sumOf_N a2 (by decide)), ob_some (sumOf_N a1 (by decide)), show f_X5_costOf r'.2.2.2.2.2.2.2.2.2.2 4095 = some (nI (wsum w1 4095 12)) from costOf_N (s := 4095) a4 (by decide), wsum_all]
        rw [ob_some rfl]
        have fin : ∀ v, ∃ o', ob (f_X5_back r'.2.2.2.2.2.2.2.2.2.2 r'.2.2.2.2.2.2.2.2.1 r'.2.2.2.1 hd' v) (fun o12 => some (o12.1, o12.2.1, o12.2.2.1, o12.2.2.2, r'.2.2.2.2.2.2.2.1, r'.2.2.2.2.2.2.1, r'.2.2.1, r'.2.2.2.2.2.2.2.2.2.1, r'.2.2.2.2.1, r'.2.2.2.2.2.1, hd')) = some o' ∧ v = o'.1 ∧ MA S o'.2.1 mkd mr o'.2.2.1 o'.2.2.2.1 mi mwc ml mg mo msc := fun v => by
          obtain ⟨w', p', b', z1, z2, z3, z4⟩ := back_N r'.2.2.2.2.2.2.2.2.2.2 r'.2.2.2.2.2.2.2.2.1 r'.2.2.2.1 hd' v
          refine ⟨_, ob_some z1, rfl, ag_eq (ag_eq y0 g2) z2, y1, y2, ag_eq (ag_eq y3 g3) z3, ag_eq (ag_eq y4 g4) z4, y5, y6, y7, y8, y9, y10⟩
        rcases (show d = 0 ∨ d = 1 ∨ d = 2 by omega) with rfl | rfl | rfl
        · obtain ⟨o', f1, f2, f3⟩ := fin t.1
          refine ⟨_, o', (if_neg (by decide)).trans (if_pos (by decide)), (if_neg (by decide)).trans f1, ?_, f3⟩
          rw [← f2, q4]; rfl
        · obtain ⟨o', f1, f2, f3⟩ := fin (nI (sm w1 12))
          exact ⟨_, o', (if_neg (by decide)).trans (if_neg (by decide)), (if_pos (by decide)).trans f1, f2, f3⟩
        · obtain ⟨o', f1, f2, f3⟩ := fin t.1
          refine ⟨_, o', (if_pos (by decide)), (if_neg (by decide)).trans f1, ?_, f3⟩
          rw [← f2, q4]; rfl
