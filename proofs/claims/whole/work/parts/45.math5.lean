/-! counting sentences -/
theorem wh_cong {σ ρ : Type} {f g : σ → Option (σ ⊕ ρ)} (h : ∀ s, f s = g s) (n : Nat) (s : σ) : wh f n s = wh g n s := by
  rw [show f = g from funext h]
theorem times_eq (b : Int64) (n : Int32) : f_X5_times b n = f_X4_power b n := by
  unfold f_X5_times f_X4_power
  rw [wh_cong (f := s_X5_times_5 b n) (g := s_X4_power_5 b n) (fun x => rfl)]
theorem power_some (b : Int64) {n : Nat} (hn : n ≤ 1000) : ∃ v, f_X4_power b (nI n) = some v := by
  obtain ⟨r, h1, -⟩ := wh_inv (step := s_X4_power_5 b (nI n)) (emb := fun j (t : Int64) => (t, nI j)) (P := fun _ _ => True) (Q := fun _ => True) n (fun j t hj _ => Or.inl ⟨t * b, by
    have hc : ¬ nI n ≤ nI j := nI_ge hj (by omega)
    unfold s_X4_power_5
    dsimp only
    rw [if_neg hc, nI_1], trivial⟩) (fun t _ => ⟨(t, nI n), by
    unfold s_X4_power_5
    dsimp only
    rw [if_pos (nI_le (Nat.le_refl n) (by omega))], trivial⟩) (fuel := 5000) (j0 := 0) (t0 := 1) (by omega) (by omega) trivial
  exact ⟨r.1, ob_some h1⟩
theorem t_says {S : Nat → Nat → Nat} (ok : okS S) {vw vk vr vp vb vi vl vg vo : Nat → Int32} {vwc vsc : Int32} {mw mkd mr mp mb mi ml mg mo : Nat → Int32} {mwc msc : Int32} (hX : XA S vw vk vr vp vb vi vwc vl vg vo vsc) (hM : MA S mw mkd mr mp mb mi mwc ml mg mo msc) (p0 p1 : Int32) :
    ∃ o, f_X4_says vk vb p0 p1 = some o ∧ f_X5_says mkd mb p0 p1 = some o := by
  obtain ⟨x0, x1, x2, x3, x4, x5⟩ := hX
  obtain ⟨y0, y1, y2, y3, y4, y5⟩ := hM
  obtain ⟨k0, k1, k2, k3, k4, k5⟩ := ok
  have e1 : f_X5_in p1.toInt64 1 8 = f_X4_isWithin p1 1 8 := in_eq (by decide) (by decide)
  have kk : ∀ j, j < 12 → S 1 j < 1000 := fun j _ => Nat.lt_of_le_of_lt (k1 j) (by decide)
  unfold f_X4_says f_X5_says
  simp only [bd_eq, isSpeaker_eq, e1]
  rcases isSpeaker_N p0 with h | ⟨h, i, hi, rfl⟩
  · refine ⟨-1, ?_, ?_⟩ <;> rw [if_pos h]
  · rw [h, if_neg one_ne, if_neg one_ne]
    rcases wi_L p1 1 8 1 8 rfl rfl (by decide) (by decide) with h1 | ⟨h1, n, hn1, hn2, rfl⟩
    · refine ⟨-2, ?_, ?_⟩ <;> rw [if_pos h1]
    · have c0 := countKind_N (v := 0) x1 kk (by decide) (k4 i)
      have c1 := countKind_N (v := 1) x1 kk (by decide) (k4 i)
      have c2 := countKind_N (v := 2) x1 kk (by decide) (k4 i)
      have d0 := manyOf_N (v := 0) y1 kk (by decide) (k4 i)
      have d1 := manyOf_N (v := 1) y1 kk (by decide) (k4 i)
      have d2 := manyOf_N (v := 2) y1 kk (by decide) (k4 i)
      rw [h1, if_neg one_ne, if_neg one_ne, chk_nI _ hi (by decide), chk_nI _ hi (by decide), x4.at hi (by decide), y4.at hi (by decide)]
      rw [ob_some (show f_X3_countKind vk (nI (S 4 i)) 0 = _ from c0), ob_some (show f_X3_countKind vk (nI (S 4 i)) 1 = _ from c1), ob_some (show f_X3_countKind vk (nI (S 4 i)) 2 = _ from c2)]
      rw [ob_some (show f_X5_manyOf mkd (nI (S 4 i)) 0 = _ from d0), ob_some (show f_X5_manyOf mkd (nI (S 4 i)) 1 = _ from d1), ob_some (show f_X5_manyOf mkd (nI (S 4 i)) 2 = _ from d2)]
      simp only [times_eq]
      have s2 : 2 ≤ n → nI n - 2 = nI (n - 2) := fun q => pk_sub (b := 2) q
      have s3 : 3 ≤ n → nI n - 3 = nI (n - 3) := fun q => pk_sub (b := 3) q
      by_cases q2 : 2 ≤ n
      · obtain ⟨v2, g2⟩ := power_some (nI (kcnt (S 1) 2 (S 4 i) 12)).toInt64 (n := n - 2) (by omega)
        rw [← s2 q2] at g2
        have q2' : (2 : Int32) ≤ nI n := nI_le (a := 2) q2 (by omega)
        rw [if_pos q2', ob_some g2]
        by_cases q3 : 3 ≤ n
        · obtain ⟨v3, g3⟩ := power_some (nI (kcnt (S 1) 2 (S 4 i) 12)).toInt64 (n := n - 3) (by omega)
          rw [← s3 q3] at g3
          have q3' : (3 : Int32) ≤ nI n := nI_le (a := 3) q3 (by omega)
          rw [if_pos q3', ob_some g3]
          exact ⟨_, rfl, rfl⟩
        · have q3' : ¬ (3 : Int32) ≤ nI n := nI_ge (b := 3) (by omega) (by decide)
          rw [if_neg q3']
          exact ⟨_, rfl, rfl⟩
      · have q2' : ¬ (2 : Int32) ≤ nI n := nI_ge (b := 2) (by omega) (by decide)
        have q3' : ¬ (3 : Int32) ≤ nI n := nI_ge (b := 3) (by omega) (by decide)
        rw [if_neg q2', if_neg q3']
        exact ⟨_, rfl, rfl⟩
/-! the cheapest sentence -/
def isSen (k : Nat → Nat) (n s : Nat) : Prop := pc s = n ∧ kcnt k 1 s 12 = 1 ∧ (kcnt k 0 s 12 = 1 ∨ kcnt k 0 s 12 = 2)
theorem isSen_dec (k : Nat → Nat) (n s : Nat) : isSen k n s ∨ ¬ isSen k n s := Classical.em _
theorem neL {a b : Nat} {L : Int32} (e : L = nI b) (h : ¬ a = b) (ha : a < 2 ^ 31) (hb : b < 2 ^ 31) : ¬ nI a = L := by
  rw [e]
  exact fun z => h ((nI_eq ha hb).mp z)
theorem wh_succ {σ ρ : Type} (step : σ → Option (σ ⊕ ρ)) (n : Nat) (s : σ) : wh step (n + 1) s = ob (step s) (wk (wh step n)) := rfl
theorem wh_next {σ ρ : Type} {step : σ → Option (σ ⊕ ρ)} {n : Nat} {s s' : σ} (h : step s = some (.inl s')) : wh step (n + 1) s = wh step n s' := by
  rw [wh_succ, h]
  rfl
theorem wh_two {σ ρ σ' ρ' τ : Type} {f : σ → Option (σ ⊕ ρ)} {g : σ' → Option (σ' ⊕ ρ')} (emb : Nat → τ → σ) (emb' : Nat → τ → σ') (P : Nat → τ → Prop) (Q : ρ → ρ' → Prop) (N : Nat)
    (hs : ∀ j t, j < N → P j t → ∃ t', f (emb j t) = some (.inl (emb (j + 1) t')) ∧ g (emb' j t) = some (.inl (emb' (j + 1) t')) ∧ P (j + 1) t')
    (hx : ∀ t, P N t → ∃ r r', f (emb N t) = some (.inr r) ∧ g (emb' N t) = some (.inr r') ∧ Q r r') {fuel fuel' j0 : Nat} (t0 : τ) (hj : j0 ≤ N) (hf : N < fuel + j0) (hg : N < fuel' + j0) (h0 : P j0 t0) : ∃ r r', wh f fuel (emb j0 t0) = some r ∧ wh g fuel' (emb' j0 t0) = some r' ∧ Q r r' := by
  have key : ∀ k j t fuel fuel', j + k = N → k < fuel → k < fuel' → P j t → ∃ r r', wh f fuel (emb j t) = some r ∧ wh g fuel' (emb' j t) = some r' ∧ Q r r' := by
    intro k
    induction k with
    | zero =>
      intro j t fuel fuel' hk hf hg h
      obtain ⟨a, rfl⟩ : ∃ a, fuel = a + 1 := ⟨fuel - 1, by omega⟩
      obtain ⟨b, rfl⟩ : ∃ b, fuel' = b + 1 := ⟨fuel' - 1, by omega⟩
      have : j = N := by omega
      subst this
      obtain ⟨r, r', h1, h2, h3⟩ := hx t h
      exact ⟨r, r', by show ob (f _) _ = _; rw [h1]; rfl, by show ob (g _) _ = _; rw [h2]; rfl, h3⟩
    | succ k ih =>
      intro j t fuel fuel' hk hf hg h
      obtain ⟨a, rfl⟩ : ∃ a, fuel = a + 1 := ⟨fuel - 1, by omega⟩
      obtain ⟨b, rfl⟩ : ∃ b, fuel' = b + 1 := ⟨fuel' - 1, by omega⟩
      obtain ⟨t', h1, h2, h3⟩ := hs j t (by omega) h
      obtain ⟨r, r', g1, g2, g3⟩ := ih (j + 1) t' a b (by omega) (by omega) (by omega) h3
      exact ⟨r, r', by show ob (f _) _ = _; rw [h1]; exact g1, by show ob (g _) _ = _; rw [h2]; exact g2, g3⟩
  exact key (N - j0) j0 t0 fuel fuel' (by omega) (by omega) (by omega) h0
theorem nI_nneg {j : Nat} (h : j < 2 ^ 31) : ¬ nI j < 0 := nI_pos h
theorem nI_ne6 {j : Nat} (h : j < 2 ^ 31) : ¬ nI j = -6 := fun q => absurd (show nI j < 0 by rw [q]; decide) (nI_nneg h)
theorem eqI {a b : Nat} (ha : a < 2 ^ 31) (hb : b < 2 ^ 31) : nI a = nI b ↔ a = b := nI_eq ha hb
theorem isSentence_N {vk : Nat → Int32} {k : Nat → Nat} {s n : Nat} (h : ag 12 vk k) (hk : ∀ j, j < 12 → k j < 1000) (hs : s < 4096) (hn : n < 1000) : f_X5_isSentence vk (nI s) (nI n) = some (if pc s = n ∧ kcnt k 1 s 12 = 1 ∧ (kcnt k 0 s 12 = 1 ∨ kcnt k 0 s 12 = 2) then 1 else 0) := by
  have c0 : f_X5_manyOf vk (nI s) 0 = _ := manyOf_N (v := 0) h hk (by decide) hs
  have c1 : f_X5_manyOf vk (nI s) 1 = _ := manyOf_N (v := 1) h hk (by decide) hs
  have l0 := kcnt_le k 0 s 12
  have l1 := kcnt_le k 1 s 12
  have lp := pc_le s
  unfold f_X5_isSentence
  rw [ob_some c0, ob_some (ones_N hs)]
  by_cases q1 : pc s = n
  · rw [if_pos (by rw [q1]), ob_some c1]
    by_cases q2 : kcnt k 1 s 12 = 1
    · rw [if_pos (by rw [q2]; rfl)]
      by_cases q3 : kcnt k 0 s 12 = 1
      · rw [if_pos (by rw [q3]; rfl), if_pos ⟨q1, q2, Or.inl q3⟩]
      · rw [if_neg (neL (L := 1) (b := 1) rfl q3 (by omega) (by decide))]
        by_cases q4 : kcnt k 0 s 12 = 2
        · rw [if_pos (by rw [q4]; rfl), if_pos ⟨q1, q2, Or.inr q4⟩]
        · rw [if_neg (neL (L := 2) (b := 2) rfl q4 (by omega) (by decide)), if_neg (fun z => z.2.2.elim q3 q4)]
    · rw [if_neg (neL (L := 1) (b := 1) rfl q2 (by omega) (by decide)), if_neg (fun z => q2 z.2.1)]
  · rw [if_neg (fun z => q1 ((eqI (by omega) (by omega)).mp z)), if_neg (fun z => q1 z.1)]
theorem cheap_two {vw vk mw mkd mb : Nat → Int32} {w k b : Nat → Nat} (xw : ag 12 vw w) (xk : ag 12 vk k) (yw : ag 12 mw w) (yk : ag 12 mkd k) (yb : ag 4 mb b) (hk : ∀ j, j < 12 → k j < 1000) (hb : ∀ j, b j < 4096) {i n : Nat} (hi : i < 4) (hn : 1 ≤ n) (hn2 : n ≤ 8) :
    ∃ r r', wh (s_X4_cheapestSentence_29 vw (nI (b i)) (nI n) (nI (kset k 0 12)) (nI (kset k 1 12))) 5000 (-6, 0, 0) = some r ∧ wh (s_X5_cheap_44 mw mkd mb (nI i) (nI n)) 5000 (-6, 0, 1) = some r' ∧ r.1 = r'.1 ∧ (r'.1 = -6 ∨ ∃ s, s < 4096 ∧ r'.1 = nI s ∧ r'.2.1 = nI (wsum w (an s (b i)) 12)) := by
  have first : s_X4_cheapestSentence_29 vw (nI (b i)) (nI n) (nI (kset k 0 12)) (nI (kset k 1 12)) (-6, 0, 0) = some (.inl (-6, 0, nI 1)) := by
    unfold s_X4_cheapestSentence_29
    dsimp only
    rw [if_neg (by decide), bd_eq, show f_J6_bitCount_0f7a4 0 = nI 0 from bitCount_N (s := 0) (by decide), if_neg (fun z => absurd ((eqI (a := 0) (by decide) (by omega)).mp z) (by omega))]
    rfl
  have rest := wh_two (f := s_X4_cheapestSentence_29 vw (nI (b i)) (nI n) (nI (kset k 0 12)) (nI (kset k 1 12))) (g := s_X5_cheap_44 mw mkd mb (nI i) (nI n)) (τ := Int32 × Int32) (fun j t => (t.1, t.2, nI j)) (fun j t => (t.1, t.2, nI j)) (fun j t => t.1 = -6 ∨ ∃ s, s < j ∧ t.1 = nI s ∧ t.2 = nI (wsum w (an s (b i)) 12)) (fun r r' => r.1 = r'.1 ∧ (r'.1 = -6 ∨ ∃ s, s < 4096 ∧ r'.1 = nI s ∧ r'.2.1 = nI (wsum w (an s (b i)) 12))) 4096 (fun j t hj ht => by
    have hc : ¬ (4095 : Int32) < nI j := nI_nlt (b := j) (a := 4095) (by omega) (by decide)
    have lp := pc_le j
    have l0 := kcnt_le k 0 j 12
    have l1 := kcnt_le k 1 j 12
    unfold s_X4_cheapestSentence_29 s_X5_cheap_44
    dsimp only
    have sen := isSentence_N yk hk hj (n := n) (by omega)
    rw [if_neg hc, if_neg hc, bd_eq, bitCount_N hj, fa_and, bitCount_N (and_lt hj), pc_kset, fa_and, bitCount_N (and_lt hj), pc_kset, bd_eq, bd_eq, bd_eq, andnot hj (hb i), priceOf_N xw (an_lt hj), yb.at hi (by decide), andnot hj (hb i), costOf_N yw (an_lt hj), chk_nI _ hi (by decide), nI_1]
    have keep : (t.1 = -6 ∨ ∃ s, s < j + 1 ∧ t.1 = nI s ∧ t.2 = nI (wsum w (an s (b i)) 12)) := ht.elim Or.inl (fun ⟨s, a1, a2⟩ => Or.inr ⟨s, by omega, a2⟩)
    by_cases q1 : pc j = n
    · rw [if_pos (show nI (pc j) = nI n by rw [q1])]
      by_cases q2 : kcnt k 1 j 12 = 1
      · rw [if_pos (show nI (kcnt k 1 j 12) = 1 by rw [q2]; rfl)]
        by_cases q3 : kcnt k 0 j 12 = 1 ∨ kcnt k 0 j 12 = 2
        · rw [show f_X4_isWithin (nI (kcnt k 0 j 12)) 1 2 = 1 from wi_1 (lo := 1) (hi := 2) (by omega) (by omega) (by decide), if_neg one_ne, ob_some (show f_X5_isSentence mkd (nI j) (nI n) = some 1 by rw [sen, if_pos ⟨q1, q2, q3⟩]), if_neg one_ne]
          rw [ob_some (a := nI (wsum w (an j (b i)) 12)) rfl, ob_some (a := nI (wsum w (an j (b i)) 12)) rfl]
          rcases ht with ht | ⟨s, a1, a2, a3⟩
          · rw [ht, if_pos rfl, if_pos (by decide), if_pos rfl]
            exact ⟨(nI j, nI (wsum w (an j (b i)) 12)), rfl, rfl, Or.inr ⟨j, by omega, rfl, rfl⟩⟩
          · rw [a2, if_neg (nI_ne6 (by omega)), if_neg (nI_nneg (by omega)), if_neg (fun z => absurd ((eqI (by omega) (by omega)).mp z) (by omega)), if_pos rfl]
            by_cases q4 : t.2 ≤ nI (wsum w (an j (b i)) 12)
            · rw [if_pos q4]
              exact ⟨(nI s, t.2), rfl, rfl, Or.inr ⟨s, by omega, rfl, a3⟩⟩
            · rw [if_neg q4]
              exact ⟨(nI j, nI (wsum w (an j (b i)) 12)), rfl, rfl, Or.inr ⟨j, by omega, rfl, rfl⟩⟩
        · rw [show f_X4_isWithin (nI (kcnt k 0 j 12)) 1 2 = 0 from wi_0 (lo := 1) (hi := 2) (by omega) (by decide) (by omega) (by decide), if_pos rfl, ob_some (show f_X5_isSentence mkd (nI j) (nI n) = some 0 by rw [sen, if_neg (fun z => q3 z.2.2)]), if_pos rfl]
          exact ⟨t, rfl, rfl, keep⟩
      · rw [if_neg (neL (L := 1) (b := 1) rfl q2 (by omega) (by decide)), ob_some (show f_X5_isSentence mkd (nI j) (nI n) = some 0 by rw [sen, if_neg (fun z => q2 z.2.1)]), if_pos rfl]
        exact ⟨t, rfl, rfl, keep⟩
    · rw [if_neg (show ¬ nI (pc j) = nI n from fun z => q1 ((eqI (by omega) (by omega)).mp z)), ob_some (show f_X5_isSentence mkd (nI j) (nI n) = some 0 by rw [sen, if_neg (fun z => q1 z.1)]), if_pos rfl]
      exact ⟨t, rfl, rfl, keep⟩) (fun t ht => ⟨(t.1, t.2, nI 4096), (t.1, t.2, nI 4096), by
    unfold s_X4_cheapestSentence_29
    dsimp only
    rw [if_pos (by decide)], by
    unfold s_X5_cheap_44
    dsimp only
    rw [if_pos (by decide)], rfl, ht⟩) (fuel := 4999) (fuel' := 5000) (j0 := 1) (-6, 0) (by decide) (by decide) (by decide) (Or.inl rfl)
  obtain ⟨r, r', h1, h2, h3, h4⟩ := rest
  refine ⟨r, r', ?_, h2, h3, h4⟩
  exact (wh_next (n := 4999) first).trans h1
theorem t_cheap {S : Nat → Nat → Nat} (ok : okS S) {vw vk vr vp vb vi vl vg vo : Nat → Int32} {vwc vsc : Int32} {mw mkd mr mp mb mi ml mg mo : Nat → Int32} {mwc msc : Int32} (hX : XA S vw vk vr vp vb vi vwc vl vg vo vsc) (hM : MA S mw mkd mr mp mb mi mwc ml mg mo msc) (p0 p1 p2 : Int32) :
    ∃ o, f_X4_cheap vw vk vb p0 p1 p2 = some o ∧ f_X5_cheap mw mkd mb p0 p1 p2 = some o := by
  obtain ⟨x0, x1, x2, x3, x4, x5⟩ := hX
  obtain ⟨y0, y1, y2, y3, y4, y5⟩ := hM
  obtain ⟨k0, k1, k2, k3, k4, k5⟩ := ok
  have e1 : f_X5_in p1.toInt64 1 8 = f_X4_isWithin p1 1 8 := in_eq (by decide) (by decide)
  have e2 : f_X5_in p2.toInt64 0 1 = f_X4_isWithin p2 0 1 := in_eq (by decide) (by decide)
  have kk : ∀ j, j < 12 → S 1 j < 1000 := fun j _ => Nat.lt_of_le_of_lt (k1 j) (by decide)
  unfold f_X4_cheap f_X5_cheap
  simp only [bd_eq, isSpeaker_eq, e1, e2]
  rcases isSpeaker_N p0 with h | ⟨h, i, hi, rfl⟩
  · refine ⟨-1, ?_, ?_⟩ <;> rw [if_pos h]
  · rw [h, if_neg one_ne, if_neg one_ne]
    rcases wi_L p1 1 8 1 8 rfl rfl (by decide) (by decide) with h1 | ⟨h1, n, hn1, hn2, rfl⟩
    · refine ⟨-2, ?_, ?_⟩ <;> rw [if_pos h1]
    · rw [h1, if_neg one_ne, if_neg one_ne]
      rcases wi_cases p2 0 1 with ⟨h2, -⟩ | ⟨h2, -⟩
      · refine ⟨-2, ?_, ?_⟩ <;> rw [if_pos h2]
      · obtain ⟨r, r', g1, g2, g3, g4⟩ := cheap_two x0 x1 y0 y1 y4 kk k4 hi hn1 hn2
        have cs : f_X4_cheapestSentence vw vk (nI (S 4 i)) (nI n) = some r.1 := by
          unfold f_X4_cheapestSentence
          rw [ob_some (show f_X3_ofKind vk 0 = _ from ofKind_N (v := 0) x1 kk (by decide)), ob_some (show f_X3_ofKind vk 1 = _ from ofKind_N (v := 1) x1 kk (by decide)), ob_some g1]
        rw [h2, if_neg one_ne, if_neg one_ne, chk_nI _ hi (by decide), x4.at hi (by decide), ob_some cs, ob_some g2, g3]
        by_cases q : p2 = 1
        · rw [if_pos q, if_pos q]
          refine ⟨r'.1, rfl, ?_⟩
          split <;> rfl
        · rw [if_neg q, if_neg q]
          rcases g4 with g4 | ⟨s, hs, g4, g5⟩
          · rw [g4]
            exact ⟨-6, rfl, rfl⟩
          · rw [g4, if_neg (nI_ne6 (by omega)), if_neg (nI_nneg (by omega)), andnot hs (k4 i), ob_some (priceOf_N x0 (an_lt hs)), g5]
            exact ⟨_, rfl, rfl⟩
