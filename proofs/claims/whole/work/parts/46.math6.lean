/-! pooling a sentence -/
theorem pc16 : ∀ s, s < 16 → pc s < 5 := by decide +kernel
theorem canSay_eq {vk mkd : Nat → Int32} {k : Nat → Nat} {s n : Nat} (h : ag 12 vk k) (h' : ag 12 mkd k) (hk : ∀ j, j < 12 → k j < 1000) (hs : s < 4096) (hn1 : 1 ≤ n) (hn : n ≤ 8) : ∃ c, (c = 0 ∨ c = 1) ∧ f_X3_canSayOnce vk (nI s) (nI n) = some c ∧ f_X5_canSay mkd (nI s) (nI n) = some c := by
  have a0 : f_X3_countKind vk (nI s) 0 = _ := countKind_N (v := 0) h hk (by decide) hs
  have a1 : f_X3_countKind vk (nI s) 1 = _ := countKind_N (v := 1) h hk (by decide) hs
  have a2 : f_X3_countKind vk (nI s) 2 = _ := countKind_N (v := 2) h hk (by decide) hs
  have b0 : f_X5_manyOf mkd (nI s) 0 = _ := manyOf_N (v := 0) h' hk (by decide) hs
  have b1 : f_X5_manyOf mkd (nI s) 1 = _ := manyOf_N (v := 1) h' hk (by decide) hs
  have b2 : f_X5_manyOf mkd (nI s) 2 = _ := manyOf_N (v := 2) h' hk (by decide) hs
  have l0 := kcnt_le k 0 s 12
  have l1 := kcnt_le k 1 s 12
  have l2 := kcnt_le k 2 s 12
  generalize kcnt k 0 s 12 = T at *
  generalize kcnt k 1 s 12 = D at *
  generalize kcnt k 2 s 12 = R at *
  unfold f_X3_canSayOnce f_X5_canSay
  rw [ob_some a0, ob_some a2, ob_some b0, ob_some b2]
  simp only [ob_some a1, ob_some b1]
  clear a0 a1 a2 b0 b1 b2
  have q2 : ((2 : Int32) ≤ nI n) ↔ 2 ≤ n := nI_leI (a := 2) (by decide) (by omega)
  have q2' : (nI n < (2 : Int32)) ↔ n < 2 := nI_ltI (b := 2) (by omega) (by decide)
  have q3 : ((3 : Int32) ≤ nI n) ↔ 3 ≤ n := nI_leI (a := 3) (by decide) (by omega)
  have q3' : (nI n < (3 : Int32)) ↔ n < 3 := nI_ltI (b := 3) (by omega) (by decide)
  have t1 : ((1 : Int32) ≤ nI T) ↔ 1 ≤ T := nI_leI (a := 1) (by decide) (by omega)
  have t1' : (nI T < (1 : Int32)) ↔ T < 1 := nI_ltI (b := 1) (by omega) (by decide)
  have t2 : ((2 : Int32) ≤ nI T) ↔ 2 ≤ T := nI_leI (a := 2) (by decide) (by omega)
  have t2' : (nI T < (2 : Int32)) ↔ T < 2 := nI_ltI (b := 2) (by omega) (by decide)
  have d1 : ((1 : Int32) ≤ nI D) ↔ 1 ≤ D := nI_leI (a := 1) (by decide) (by omega)
  have d1' : (nI D < (1 : Int32)) ↔ D < 1 := nI_ltI (b := 1) (by omega) (by decide)
  by_cases n2 : 2 ≤ n
  · have e2 : nI n - 2 = nI (n - 2) := pk_sub (b := 2) n2
    have r2 : (nI n - 2 ≤ nI R) ↔ n - 2 ≤ R := by rw [e2]; exact nI_leI (by omega) (by omega)
    have r2' : (nI R < nI n - 2) ↔ R < n - 2 := by rw [e2]; exact nI_ltI (by omega) (by omega)
    by_cases n3 : 3 ≤ n
    · have e3 : nI n - 3 = nI (n - 3) := pk_sub (b := 3) n3
      have r3 : (nI n - 3 ≤ nI R) ↔ n - 3 ≤ R := by rw [e3]; exact nI_leI (by omega) (by omega)
      have r3' : (nI R < nI n - 3) ↔ R < n - 3 := by rw [e3]; exact nI_ltI (by omega) (by omega)
      simp only [q2, q2', q3, q3', t1, t1', t2, t2', d1, d1', r2, r2', r3, r3', bchk]
      by_cases z1 : 1 ≤ T <;> by_cases z2 : 2 ≤ T <;> by_cases z3 : 1 ≤ D <;> by_cases z4 : n - 2 ≤ R <;> by_cases z5 : n - 3 ≤ R <;> first | (exfalso; omega) | skip
      all_goals
        have y1 : ¬ n < 2 := by omega
        have y2 : ¬ n < 3 := by omega
        have y3 : (T < 1) ↔ ¬ 1 ≤ T := by omega
        have y4 : (T < 2) ↔ ¬ 2 ≤ T := by omega
        have y5 : (R < n - 3) ↔ ¬ n - 3 ≤ R := by omega
        have y6 : (R < n - 2) ↔ ¬ n - 2 ≤ R := by omega
        have y7 : (D < 1) ↔ ¬ 1 ≤ D := by omega
        simp only [y1, y2, y3, y4, y5, y6, y7, n2, n3, z1, z2, z3, z4, z5]
        first | (refine ⟨0, Or.inl rfl, ?_, ?_⟩ <;> simp; done) | (refine ⟨1, Or.inr rfl, ?_, ?_⟩ <;> simp; done)
    · simp only [q2, q2', q3, q3', t1, t1', t2, t2', d1, d1', r2, r2', bchk]
      by_cases z1 : 1 ≤ T <;> by_cases z2 : 2 ≤ T <;> by_cases z3 : 1 ≤ D <;> by_cases z4 : n - 2 ≤ R <;> first | (exfalso; omega) | skip
      all_goals
        have y1 : ¬ n < 2 := by omega
        have y2 : n < 3 := by omega
        have y3 : (T < 1) ↔ ¬ 1 ≤ T := by omega
        have y4 : (T < 2) ↔ ¬ 2 ≤ T := by omega
        have y6 : (R < n - 2) ↔ ¬ n - 2 ≤ R := by omega
        have y7 : (D < 1) ↔ ¬ 1 ≤ D := by omega
        simp only [y1, y2, y3, y4, y6, y7, n2, n3, z1, z2, z3, z4]
        first | (refine ⟨0, Or.inl rfl, ?_, ?_⟩ <;> simp; done) | (refine ⟨1, Or.inr rfl, ?_, ?_⟩ <;> simp; done)
  · simp only [q2, q2', q3, q3', t1, t1', t2, t2', d1, d1', bchk]
    by_cases z1 : 1 ≤ T <;> by_cases z3 : 1 ≤ D
    all_goals
      have y1 : n < 2 := by omega
      have y2 : ¬ 3 ≤ n := by omega
      have y9 : n < 3 := by omega
      have y3 : (T < 1) ↔ ¬ 1 ≤ T := by omega
      have y7 : (D < 1) ↔ ¬ 1 ≤ D := by omega
      simp only [y1, y2, y9, y3, y7, n2, z1, z3]
      (refine ⟨0, Or.inl rfl, ?_, ?_⟩ <;> simp; done)
theorem poolSet_N {mb : Nat → Int32} {b : Nat → Nat} {who : Nat} (h : ag 4 mb b) (hw : who < 4096) : ∃ r, wh (s_X5_pool_44 mb (nI who)) 5000 (0, 0) = some r ∧ r.1 = nI (hset b who 4) :=
  wh_inv (step := s_X5_pool_44 mb (nI who)) (emb := fun j (t : Nat) => (nI t, nI j)) (P := fun j t => t = hset b who j) (Q := fun r => r.1 = nI (hset b who 4)) 4 (fun j t hj ht => Or.inl ⟨hset b who (j + 1), by
    have hc : ¬ (4 : Int32) ≤ nI j := nI_ge hj (by decide)
    have hd : hset b who (j + 1) = if who.testBit j = true then hset b who j ||| b j else hset b who j := rfl
    have z0 : nI (hset b who j) ||| 0 = nI (hset b who j) := by
      have := fa_or (hset b who j) 0
      rw [Nat.or_zero] at this
      exact this
    unfold s_X5_pool_44
    dsimp only
    rw [if_neg hc]
    by_cases hb : who.testBit j = true
    · rw [if_pos ((bit_1 (by omega) (by omega)).mpr hb), chk_nI _ hj (by decide), h.at hj (by decide), nI_1, fa_or, hd, if_pos hb, ht]
    · rw [if_neg (fun q => hb ((bit_1 (by omega) (by omega)).mp q)), nI_1, hd, if_neg hb, ht, z0], rfl⟩) (fun t ht => ⟨(nI t, nI 4), by
    unfold s_X5_pool_44
    dsimp only
    rw [if_pos (by decide)], by dsimp only; rw [ht]⟩) (fuel := 5000) (j0 := 0) (t0 := 0) (by decide) (by decide) rfl
theorem pool_two {vk vb mkd mb : Nat → Int32} {k b : Nat → Nat} (xk : ag 12 vk k) (xb : ag 4 vb b) (yk : ag 12 mkd k) (yb : ag 4 mb b) (hk : ∀ j, j < 12 → k j < 1000) (hb : ∀ j, b j < 4096) {n : Nat} (hn1 : 1 ≤ n) (hn : n ≤ 8) :
    ∃ r r', wh (s_X4_fewestSpeakers_8 vk vb (nI n)) 5000 (-6, 5, 1) = some r ∧ wh (s_X5_pool_31 mkd mb (nI n)) 5000 (-6, 1) = some r' ∧ r.1 = r'.1 ∧ (r'.1 = -6 ∨ ∃ s, s < 4096 ∧ r'.1 = nI s) :=
  wh_two (f := s_X4_fewestSpeakers_8 vk vb (nI n)) (g := s_X5_pool_31 mkd mb (nI n)) (τ := Int32 × Int32) (fun j t => (t.1, t.2, nI j)) (fun j t => (t.1, nI j)) (fun j t => (t.1 = -6 ∧ t.2 = 5) ∨ ∃ s, s < j ∧ t.1 = nI s ∧ t.2 = nI (pc s)) (fun r r' => r.1 = r'.1 ∧ (r'.1 = -6 ∨ ∃ s, s < 4096 ∧ r'.1 = nI s)) 16 (fun j t hj ht => by
    have hc : ¬ (15 : Int32) < nI j := nI_nlt (b := j) (a := 15) (by omega) (by decide)
    have hc' : ¬ (16 : Int32) ≤ nI j := nI_ge hj (by decide)
    have lp := pc16 j hj
    obtain ⟨rs, g1, g2⟩ := poolSet_N yb (who := j) (by omega)
    obtain ⟨c, c1, c2, c3⟩ := canSay_eq xk yk hk (hset_lt (who := j) hb 4) hn1 hn
    unfold s_X4_fewestSpeakers_8 s_X5_pool_31
    dsimp only
    rw [if_neg hc, if_neg hc', bd_eq, bitCount_N (by omega), ob_some g1, g2, ob_some c3, ob_some (heldBy_N xb (by omega)), ob_some c2, nI_1, ob_some (ones_N (s := j) (by omega))]
    rcases ht with ⟨e1, e2⟩ | ⟨s, e1, e2, e3⟩
    · rw [e1, e2, if_neg (show ¬ (5 : Int32) ≤ nI (pc j) from nI_ge (b := 5) lp (by decide)), if_pos (show (-6 : Int32) < 0 by decide)]
      rcases c1 with rfl | rfl
      · rw [if_pos rfl, if_pos rfl]
        exact ⟨(-6, 5), rfl, rfl, Or.inl ⟨rfl, rfl⟩⟩
      · rw [if_neg one_ne, if_neg one_ne]
        exact ⟨(nI j, nI (pc j)), rfl, rfl, Or.inr ⟨j, by omega, rfl, rfl⟩⟩
    · rw [e2, e3, if_neg (nI_nneg (by omega)), ob_some (ones_N (s := s) (by omega))]
      by_cases q : nI (pc s) ≤ nI (pc j)
      · rw [if_pos q, if_pos q]
        refine ⟨(nI s, nI (pc s)), rfl, ?_, Or.inr ⟨s, by omega, rfl, rfl⟩⟩
        split <;> rfl
      · rw [if_neg q, if_neg q]
        rcases c1 with rfl | rfl
        · rw [if_pos rfl, if_pos rfl]
          exact ⟨(nI s, nI (pc s)), rfl, rfl, Or.inr ⟨s, by omega, rfl, rfl⟩⟩
        · rw [if_neg one_ne, if_neg one_ne]
          exact ⟨(nI j, nI (pc j)), rfl, rfl, Or.inr ⟨j, by omega, rfl, rfl⟩⟩) (fun t ht => ⟨(t.1, t.2, nI 16), (t.1, nI 16), by
    unfold s_X4_fewestSpeakers_8
    dsimp only
    rw [if_pos (by decide)], by
    unfold s_X5_pool_31
    dsimp only
    rw [if_pos (by decide)], rfl, ht.elim (fun q => Or.inl q.1) (fun ⟨s, a1, a2, _⟩ => Or.inr ⟨s, by omega, a2⟩)⟩) (fuel := 5000) (fuel' := 5000) (j0 := 1) (-6, 5) (by decide) (by decide) (by decide) (Or.inl ⟨rfl, rfl⟩)
theorem t_pool {S : Nat → Nat → Nat} (ok : okS S) {vw vk vr vp vb vi vl vg vo : Nat → Int32} {vwc vsc : Int32} {mw mkd mr mp mb mi ml mg mo : Nat → Int32} {mwc msc : Int32} (hX : XA S vw vk vr vp vb vi vwc vl vg vo vsc) (hM : MA S mw mkd mr mp mb mi mwc ml mg mo msc) (p0 p1 : Int32) :
    ∃ o, f_X4_pool vk vb p0 p1 = some o ∧ f_X5_pool mkd mb p0 p1 = some o := by
  obtain ⟨x0, x1, x2, x3, x4, x5⟩ := hX
  obtain ⟨y0, y1, y2, y3, y4, y5⟩ := hM
  obtain ⟨k0, k1, k2, k3, k4, k5⟩ := ok
  have e1 : f_X5_in p0.toInt64 1 8 = f_X4_isWithin p0 1 8 := in_eq (by decide) (by decide)
  have e2 : f_X5_in p1.toInt64 0 1 = f_X4_isWithin p1 0 1 := in_eq (by decide) (by decide)
  have kk : ∀ j, j < 12 → S 1 j < 1000 := fun j _ => Nat.lt_of_le_of_lt (k1 j) (by decide)
  unfold f_X4_pool f_X5_pool
  simp only [bd_eq, e1, e2]
  rcases wi_L p0 1 8 1 8 rfl rfl (by decide) (by decide) with h1 | ⟨h1, n, hn1, hn2, rfl⟩
  · refine ⟨-2, ?_, ?_⟩ <;> rw [if_pos h1]
  · rw [h1, if_neg one_ne, if_neg one_ne]
    rcases wi_cases p1 0 1 with ⟨h2, -⟩ | ⟨h2, -⟩
    · refine ⟨-2, ?_, ?_⟩ <;> rw [if_pos h2]
    · obtain ⟨r, r', g1, g2, g3, g4⟩ := pool_two x1 x4 y1 y4 kk k4 hn1 hn2
      have fs : f_X4_fewestSpeakers vk vb (nI n) = some r.1 := ob_some g1
      rw [h2, if_neg one_ne, if_neg one_ne, ob_some fs, ob_some g2, g3]
      by_cases q : p1 = 1
      · rw [if_pos q, if_pos q]
        refine ⟨r'.1, rfl, ?_⟩
        split <;> rfl
      · rw [if_neg q, if_neg q]
        rcases g4 with g4 | ⟨s, hs, g4⟩
        · rw [g4]
          exact ⟨-6, rfl, rfl⟩
        · rw [g4, if_neg (nI_ne6 (by omega)), if_neg (nI_nneg (by omega)), bitCount_N hs, ob_some (ones_N hs)]
          exact ⟨_, rfl, rfl⟩
