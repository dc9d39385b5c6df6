/-! weather: lowest terms -/
theorem p5_odd : ∀ y, 5 ^ y % 2 = 1
  | 0 => rfl
  | y + 1 => by rw [Nat.pow_succ]; have := p5_odd y; omega
theorem p2_n5 : ∀ x, 2 ^ x % 5 ≠ 0
  | 0 => by decide
  | x + 1 => by rw [Nat.pow_succ]; have := p2_n5 x; omega
def RJ (m i k U L u l : Nat) : Prop := ∃ c x y, 0 < c ∧ u * c = U ∧ l * c = L ∧ l = 2 ^ x * 5 ^ y ∧ (¬ (u % 2 = 0 ∧ l % 2 = 0) ∨ x + i ≤ m) ∧ (¬ (u % 5 = 0 ∧ l % 5 = 0) ∨ y + k ≤ m)
theorem RJ_2 {m i k U L u l : Nat} (h : RJ m i k U L u l) (e : u % 2 = 0 ∧ l % 2 = 0) : RJ m (i + 1) k U L (u / 2) (l / 2) := by
  obtain ⟨c, x, y, hc, h1, h2, h3, h4, h5⟩ := h
  cases x with
  | zero =>
    exfalso
    have := p5_odd y
    rw [Nat.pow_zero, Nat.one_mul] at h3
    rw [← h3] at this
    omega
  | succ x =>
    have h3' : l = 2 * (2 ^ x * 5 ^ y) := by rw [h3, Nat.pow_succ, Nat.mul_comm (2 ^ x) 2, Nat.mul_assoc]
    refine ⟨2 * c, x, y, by omega, ?_, ?_, by omega, ?_, ?_⟩
    · rw [← Nat.mul_assoc, Nat.div_mul_cancel (Nat.dvd_of_mod_eq_zero e.1), h1]
    · rw [← Nat.mul_assoc, Nat.div_mul_cancel (Nat.dvd_of_mod_eq_zero e.2), h2]
    · rcases h4 with h4 | h4
      · exact absurd e h4
      · exact Or.inr (by omega)
    · rcases h5 with h5 | h5
      · refine Or.inl (fun z => h5 ?_)
        obtain ⟨z1, z2⟩ := z
        obtain ⟨e1, e2⟩ := e
        constructor <;> omega
      · exact Or.inr h5
theorem RJ_2n {m i k U L u l : Nat} (h : RJ m i k U L u l) (e : ¬ (u % 2 = 0 ∧ l % 2 = 0)) : RJ m (i + 1) k U L u l := by
  obtain ⟨c, x, y, hc, h1, h2, h3, h4, h5⟩ := h
  exact ⟨c, x, y, hc, h1, h2, h3, Or.inl e, h5⟩
theorem RJ_5 {m i k U L u l : Nat} (h : RJ m i k U L u l) (e : u % 5 = 0 ∧ l % 5 = 0) : RJ m i (k + 1) U L (u / 5) (l / 5) := by
  obtain ⟨c, x, y, hc, h1, h2, h3, h4, h5⟩ := h
  cases y with
  | zero =>
    exfalso
    have := p2_n5 x
    rw [Nat.pow_zero, Nat.mul_one] at h3
    rw [← h3] at this
    omega
  | succ y =>
    have h3' : l = 5 * (2 ^ x * 5 ^ y) := by rw [h3, Nat.pow_succ, Nat.mul_comm (5 ^ y) 5, Nat.mul_left_comm]
    refine ⟨5 * c, x, y, by omega, ?_, ?_, by omega, ?_, ?_⟩
    · rw [← Nat.mul_assoc, Nat.div_mul_cancel (Nat.dvd_of_mod_eq_zero e.1), h1]
    · rw [← Nat.mul_assoc, Nat.div_mul_cancel (Nat.dvd_of_mod_eq_zero e.2), h2]
    · rcases h4 with h4 | h4
      · refine Or.inl (fun z => h4 ?_)
        obtain ⟨z1, z2⟩ := z
        obtain ⟨e1, e2⟩ := e
        constructor <;> omega
      · exact Or.inr h4
    · rcases h5 with h5 | h5
      · exact absurd e h5
      · exact Or.inr (by omega)
theorem RJ_5n {m i k U L u l : Nat} (h : RJ m i k U L u l) (e : ¬ (u % 5 = 0 ∧ l % 5 = 0)) : RJ m i (k + 1) U L u l := by
  obtain ⟨c, x, y, hc, h1, h2, h3, h4, h5⟩ := h
  exact ⟨c, x, y, hc, h1, h2, h3, h4, Or.inl e⟩
theorem cop2 {u : Nat} (h : ¬ u % 2 = 0) : Nat.gcd u 2 = 1 := by
  rw [Nat.gcd_comm, Nat.gcd_rec, show u % 2 = 1 by omega]
  decide
theorem cop5 {u : Nat} (h : ¬ u % 5 = 0) : Nat.gcd u 5 = 1 := by
  rw [Nat.gcd_comm, Nat.gcd_rec]
  rcases (show u % 5 = 1 ∨ u % 5 = 2 ∨ u % 5 = 3 ∨ u % 5 = 4 by omega) with q | q | q | q <;> rw [q] <;> decide
theorem RJ_end {m U L u l : Nat} (h : RJ m m m U L u l) : u = U / Nat.gcd L U ∧ l = L / Nat.gcd L U ∧ 0 < Nat.gcd L U := by
  obtain ⟨c, x, y, hc, h1, h2, h3, h4, h5⟩ := h
  have c2 : Nat.gcd u (2 ^ x) = 1 := by
    by_cases e : x = 0
    · subst e
      exact Nat.gcd_one_right u
    · refine Nat.Coprime.pow_right x (cop2 (fun q => ?_))
      rcases h4 with h4 | h4
      · refine h4 ⟨q, ?_⟩
        obtain ⟨x', rfl⟩ : ∃ x', x = x' + 1 := ⟨x - 1, by omega⟩
        have h3' : l = 2 * (2 ^ x' * 5 ^ y) := by rw [h3, Nat.pow_succ, Nat.mul_comm (2 ^ x') 2, Nat.mul_assoc]
        omega
      · omega
  have c5 : Nat.gcd u (5 ^ y) = 1 := by
    by_cases e : y = 0
    · subst e
      exact Nat.gcd_one_right u
    · refine Nat.Coprime.pow_right y (cop5 (fun q => ?_))
      rcases h5 with h5 | h5
      · refine h5 ⟨q, ?_⟩
        obtain ⟨y', rfl⟩ : ∃ y', y = y' + 1 := ⟨y - 1, by omega⟩
        have h3' : l = 5 * (2 ^ x * 5 ^ y') := by rw [h3, Nat.pow_succ, Nat.mul_comm (5 ^ y') 5, Nat.mul_left_comm]
        omega
      · omega
  have cu : Nat.gcd u l = 1 := by
    rw [h3]
    exact Nat.Coprime.mul_right c2 c5
  have g : Nat.gcd L U = c := by
    rw [← h1, ← h2, Nat.gcd_mul_right, Nat.gcd_comm, cu, Nat.one_mul]
  rw [g, ← h1, ← h2, Nat.mul_div_cancel _ hc, Nat.mul_div_cancel _ hc]
  exact ⟨rfl, rfl, hc⟩
theorem rem2 {u : Nat} (hu : u < 2 ^ 63) : lg_cmp (lN u - lN u / 2 * 2) 0 = 0 ↔ u % 2 = 0 := by
  rw [cmp_eq0, show lN u - lN u / 2 * 2 = lN (u % 2) from pk_lRem (b := 2) hu (by decide) (by decide)]
  exact pk_lEQ (b := 0) (by omega) (by decide)
theorem rem5 {u : Nat} (hu : u < 2 ^ 63) : lg_cmp (lN u - lN u / 5 * 5) 0 = 0 ↔ u % 5 = 0 := by
  rw [cmp_eq0, show lN u - lN u / 5 * 5 = lN (u % 5) from pk_lRem (b := 5) hu (by decide) (by decide)]
  exact pk_lEQ (b := 0) (by omega) (by decide)
theorem half {u : Nat} (hu : u < 2 ^ 63) : lN u / 2 = lN (u / 2) := pk_lDiv (b := 2) hu (by decide) (by decide)
theorem fifth {u : Nat} (hu : u < 2 ^ 63) : lN u / 5 = lN (u / 5) := pk_lDiv (b := 5) hu (by decide) (by decide)
theorem low_X {m U L : Nat} (hm : m ≤ 8) (hU : U < 2 ^ 40) (hL : L = 10 ^ m) : ∃ r, wh (s_X4_weather_110 (nI m)) 5000 (lN U, lN L, nI 0) = some r ∧ r.1 = lN (U / Nat.gcd L U) ∧ r.2.1 = lN (L / Nat.gcd L U) ∧ 0 < Nat.gcd L U := by
  have hL' : L ≤ 100000000 := by rw [hL]; exact tens hm
  have h0 : RJ m 0 0 U L U L := ⟨1, m, m, by decide, Nat.mul_one U, Nat.mul_one L, by rw [hL, ← Nat.mul_pow], Or.inr (by omega), Or.inr (by omega)⟩
  exact wh_inv (step := s_X4_weather_110 (nI m)) (emb := fun j (x : Nat × Nat) => (lN x.1, lN x.2, nI j)) (P := fun j x => x.1 ≤ U ∧ x.2 ≤ L ∧ RJ m j j U L x.1 x.2) (Q := fun r => r.1 = lN (U / Nat.gcd L U) ∧ r.2.1 = lN (L / Nat.gcd L U) ∧ 0 < Nat.gcd L U) m (fun j x hj hx => by
    obtain ⟨u, l⟩ := x
    obtain ⟨a1, a2, a3⟩ := hx
    dsimp only at a1 a2 a3 ⊢
    have d1 : u / 2 ≤ u := Nat.div_le_self _ _
    have d2 : l / 2 ≤ l := Nat.div_le_self _ _
    have d3 : u / 5 ≤ u := Nat.div_le_self _ _
    have d4 : l / 5 ≤ l := Nat.div_le_self _ _
    have d5 : u / 2 / 5 ≤ u / 2 := Nat.div_le_self _ _
    have d6 : l / 2 / 5 ≤ l / 2 := Nat.div_le_self _ _
    have lu : u < 2 ^ 63 := by omega
    have ll : l < 2 ^ 63 := by omega
    have lu2 : u / 2 < 2 ^ 63 := by omega
    have ll2 : l / 2 < 2 ^ 63 := by omega
    have u2 := rem2 lu
    have l2 := rem2 ll
    have u5 := rem5 lu
    have l5 := rem5 ll
    have v5 := rem5 lu2
    have k5 := rem5 ll2
    unfold s_X4_weather_110
    dsimp only
    rw [if_neg (nI_ge hj (by omega)), nI_1]
    refine Or.inl ?_
    have none2 : ¬ (u % 2 = 0 ∧ l % 2 = 0) → ∃ t' : Nat × Nat, (if lg_cmp (lN u - lN u / 5 * 5) 0 = 0 then (if lg_cmp (lN l - lN l / 5 * 5) 0 = 0 then (some (.inl (lN u / 5, lN l / 5, nI (j + 1)))) else (some (.inl (lN u, lN l, nI (j + 1))))) else (some (.inl (lN u, lN l, nI (j + 1)))) : Option ((Int64 × Int64 × Int32) ⊕ (Int64 × Int64 × Int32))) = some (.inl (lN t'.1, lN t'.2, nI (j + 1))) ∧ t'.1 ≤ U ∧ t'.2 ≤ L ∧ RJ m (j + 1) (j + 1) U L t'.1 t'.2 := fun e => by
      have b := RJ_2n a3 e
      by_cases q1 : u % 5 = 0
      · by_cases q2 : l % 5 = 0
        · rw [if_pos (u5.mpr q1), if_pos (l5.mpr q2), fifth lu, fifth ll]
          exact ⟨(u / 5, l / 5), rfl, by dsimp only; omega, by dsimp only; omega, RJ_5 b ⟨q1, q2⟩⟩
        · rw [if_pos (u5.mpr q1), if_neg (fun z => q2 (l5.mp z))]
          exact ⟨(u, l), rfl, a1, a2, RJ_5n b (fun z => q2 z.2)⟩
      · rw [if_neg (fun z => q1 (u5.mp z))]
        exact ⟨(u, l), rfl, a1, a2, RJ_5n b (fun z => q1 z.1)⟩
    by_cases p1 : u % 2 = 0
    · by_cases p2 : l % 2 = 0
      · have b := RJ_2 a3 ⟨p1, p2⟩
        rw [if_pos (u2.mpr p1), if_pos (l2.mpr p2), half lu, half ll]
        by_cases q1 : u / 2 % 5 = 0
        · by_cases q2 : l / 2 % 5 = 0
          · rw [if_pos (v5.mpr q1), if_pos (k5.mpr q2), fifth lu2, fifth ll2]
            exact ⟨(u / 2 / 5, l / 2 / 5), rfl, by dsimp only; omega, by dsimp only; omega, RJ_5 b ⟨q1, q2⟩⟩
          · rw [if_pos (v5.mpr q1), if_neg (fun z => q2 (k5.mp z))]
            exact ⟨(u / 2, l / 2), rfl, by dsimp only; omega, by dsimp only; omega, RJ_5n b (fun z => q2 z.2)⟩
        · rw [if_neg (fun z => q1 (v5.mp z))]
          exact ⟨(u / 2, l / 2), rfl, by dsimp only; omega, by dsimp only; omega, RJ_5n b (fun z => q1 z.1)⟩
      · rw [if_pos (u2.mpr p1), if_neg (fun z => p2 (l2.mp z))]
        exact none2 (fun z => p2 z.2)
    · rw [if_neg (fun z => p1 (u2.mp z))]
      exact none2 (fun z => p1 z.1)) (fun x hx => ⟨(lN x.1, lN x.2, nI m), by
    unfold s_X4_weather_110
    dsimp only
    rw [if_pos (nI_le (Nat.le_refl m) (by omega))], by
    obtain ⟨e1, e2, e3⟩ := RJ_end hx.2.2
    dsimp only
    rw [← e1, ← e2]
    exact ⟨rfl, rfl, e3⟩⟩) (fuel := 5000) (j0 := 0) (t0 := (U, L)) (by omega) (by omega) ⟨Nat.le_refl U, Nat.le_refl L, h0⟩
theorem gcd_M : ∀ k a b fuel, b < 2 ^ k → k ≤ 60 → a < 2 ^ 63 → 2 * k + 1 ≤ fuel → wh s_X5_lowest_6 fuel (lN a, lN b) = some (lN (Nat.gcd a b), lN 0) := by
  have stop : ∀ a fuel, 1 ≤ fuel → wh s_X5_lowest_6 fuel (lN a, lN 0) = some (lN (Nat.gcd a 0), lN 0) := fun a fuel hf => by
    obtain ⟨f, rfl⟩ : ∃ f, fuel = f + 1 := ⟨fuel - 1, by omega⟩
    have : s_X5_lowest_6 (lN a, lN 0) = some (.inr (lN a, lN 0)) := by
      unfold s_X5_lowest_6
      exact if_pos ((cmp_eq0 _ _).mpr rfl)
    rw [wh_succ, ob_some this, Nat.gcd_zero_right]
    rfl
  have step : ∀ a b fuel, b ≠ 0 → a < 2 ^ 63 → b < 2 ^ 63 → wh s_X5_lowest_6 (fuel + 1) (lN a, lN b) = wh s_X5_lowest_6 fuel (lN b, lN (a % b)) := fun a b fuel hb ha hb2 => by
    have nz : ¬ lN b = 0 := fun q => hb ((pk_lEQ (b := 0) hb2 (by decide)).mp q)
    refine wh_next ?_
    unfold s_X5_lowest_6
    dsimp only
    rw [if_neg (fun q => nz ((cmp_eq0 _ _).mp q)), pk_lRem ha (by omega) hb2]
    exact if_neg nz
  have ge : ∀ a b, Nat.gcd a b = Nat.gcd b (a % b) := fun a b => by
    rw [Nat.gcd_comm, Nat.gcd_rec, Nat.gcd_comm]
  intro k
  induction k with
  | zero =>
    intro a b fuel hb hk ha hf
    have : b = 0 := by rw [Nat.pow_zero] at hb; omega
    subst this
    exact stop a fuel (by omega)
  | succ k ih =>
    intro a b fuel hb hk ha hf
    have hp : 2 ^ (k + 1) ≤ 2 ^ 60 := Nat.pow_le_pow_right (by decide) hk
    have hps : 2 ^ (k + 1) = 2 * 2 ^ k := by rw [Nat.pow_succ, Nat.mul_comm]
    by_cases e : b = 0
    · subst e
      exact stop a fuel (by omega)
    · obtain ⟨f, rfl⟩ : ∃ f, fuel = f + 1 + 1 := ⟨fuel - 2, by omega⟩
      have hr : a % b < b := Nat.mod_lt a (by omega)
      rw [step a b (f + 1) e ha (by omega)]
      by_cases e2 : a % b = 0
      · rw [e2, stop b (f + 1) (by omega), ge a b, e2]
      · rw [step b (a % b) f e2 (by omega) (by omega), ih (a % b) (b % (a % b)) f ?_ (by omega) (by omega) (by omega), ← ge b (a % b), ← ge a b]
        have hq : b % (a % b) < a % b := Nat.mod_lt b (by omega)
        have hd : a % b * (b / (a % b)) + b % (a % b) = b := Nat.div_add_mod b (a % b)
        have h1 : 1 ≤ b / (a % b) := Nat.div_pos (by omega) (by omega)
        have h2 : a % b * 1 ≤ a % b * (b / (a % b)) := Nat.mul_le_mul_left _ h1
        omega
theorem low_M {U L : Nat} (hU : U < 2 ^ 40) (hL : L < 2 ^ 40) (h0 : 0 < Nat.gcd L U) (p : Int32) : f_X5_lowest (lN U) (lN L) p = some (if p = 0 then lN (U / Nat.gcd L U) else lN (L / Nat.gcd L U)) := by
  have h := gcd_M 40 L U 5000 hU (by decide) (by omega) (by decide)
  have gl : Nat.gcd L U < 2 ^ 63 ∨ Nat.gcd L U = 0 := by
    by_cases e : L = 0
    · subst e
      rw [Nat.gcd_zero_left]
      omega
    · exact Or.inl (Nat.lt_of_le_of_lt (Nat.gcd_le_left U (by omega)) (by omega))
  have gl : Nat.gcd L U < 2 ^ 63 := by omega
  have nz : ¬ lN (Nat.gcd L U) = 0 := fun q => absurd ((pk_lEQ (b := 0) gl (by decide)).mp q) (by omega)
  refine (ob_some h).trans ?_
  dsimp only
  by_cases e : p = 0
  · rw [if_pos e, if_pos e]
    refine (if_neg nz).trans ?_
    rw [pk_lDiv (by omega) h0 gl]
  · rw [if_neg e, if_neg e]
    refine (if_neg nz).trans ?_
    rw [pk_lDiv (by omega) h0 gl]
theorem power_N {m : Nat} (hm : m ≤ 8) : f_X4_power 10 (nI m) = some (lN (10 ^ m)) := by
  obtain ⟨r, h1, h2⟩ := wh_inv (step := s_X4_power_5 10 (nI m)) (emb := fun j (x : Int64) => (x, nI j)) (P := fun j x => x = lN (10 ^ j)) (Q := fun r => r.1 = lN (10 ^ m)) m (fun j x hj hx => Or.inl ⟨lN (10 ^ (j + 1)), by
    unfold s_X4_power_5
    dsimp only
    rw [if_neg (nI_ge hj (by omega)), nI_1, hx, show lN (10 ^ j) * 10 = lN (10 ^ j * 10) from lN_mul _ 10, Nat.pow_succ], rfl⟩) (fun x hx => ⟨(x, nI m), by
    unfold s_X4_power_5
    dsimp only
    rw [if_pos (nI_le (Nat.le_refl m) (by omega))], hx⟩) (fuel := 5000) (j0 := 0) (t0 := 1) (by omega) (by omega) rfl
  refine (ob_some h1).trans ?_
  rw [h2]
theorem t_weather (vfm br bt : Nat → Int64) (p0 p1 p2 p3 p4 : Int32) : ∃ o o', f_X4_weather vfm p0 p1 p2 p3 p4 = some o ∧ f_X5_weather br bt p0 p1 p2 p3 p4 = some o' ∧ o.1 = o'.1 := by
  have e0 : f_X5_in p0.toInt64 0 40 = f_X4_isWithin p0 0 40 := in_eq (by decide) (by decide)
  have e1 : f_X5_in p1.toInt64 0 8 = f_X4_isWithin p1 0 8 := in_eq (by decide) (by decide)
  have e2 : f_X5_in p2.toInt64 0 10 = f_X4_isWithin p2 0 10 := in_eq (by decide) (by decide)
  have e3 : f_X5_in p3.toInt64 0 1 = f_X4_isWithin p3 0 1 := in_eq (by decide) (by decide)
  have e4 : f_X5_in p4.toInt64 0 1 = f_X4_isWithin p4 0 1 := in_eq (by decide) (by decide)
  unfold f_X4_weather f_X5_weather
  simp only [bd_eq, e0, e1, e2, e3, e4]
  rcases wi_L p0 0 40 0 40 rfl rfl (by decide) (by decide) with h | ⟨h, v, -, hv, rfl⟩
  · exact ⟨_, _, if_pos h, if_pos h, rfl⟩
  · rw [h, if_neg one_ne, if_neg one_ne]
    rcases wi_L p1 0 8 0 8 rfl rfl (by decide) (by decide) with h1 | ⟨h1, m, -, hm, rfl⟩
    · exact ⟨_, _, if_pos h1, if_pos h1, rfl⟩
    · rw [h1, if_neg one_ne, if_neg one_ne]
      rcases wi_L p2 0 10 0 10 rfl rfl (by decide) (by decide) with h2 | ⟨h2, t, -, ht, rfl⟩
      · exact ⟨_, _, if_pos h2, if_pos h2, rfl⟩
      · rw [h2, if_neg one_ne, if_neg one_ne]
        rcases wi_cases p3 0 1 with ⟨h3, -⟩ | ⟨h3, -⟩
        · exact ⟨_, _, if_pos h3, if_pos h3, rfl⟩
        · rw [h3, if_neg one_ne, if_neg one_ne]
          rcases wi_cases p4 0 1 with ⟨h4, -⟩ | ⟨h4, -⟩
          · exact ⟨_, _, if_pos h4, if_pos h4, rfl⟩
          · rw [h4, if_neg one_ne, if_neg one_ne]
            obtain ⟨o, q1, q2⟩ := bestMean_N vfm hv hm ht
            obtain ⟨r, g1, g2⟩ := fill_M br
            obtain ⟨w, w1, w2, w3, w4⟩ := means_M hv hm ht r.2 bt g2
            have hg := Gw_lt (d := m) (p := v) ht hm (by omega)
            have hL := tens hm
            have hvm : v * 10 ^ m < 2 ^ 40 := big (d := m) (p := v) hm (by omega) (Nat.mul_le_mul_right _ (by omega))
            by_cases e : p3 = 1
            · have hc : lg_cmp o.1 ((nI v).toInt64 * lN (10 ^ m)) = 0 ↔ Gw t m v = v * 10 ^ m := by
                rw [cmp_eq0, q2, nI_l (by omega), lN_mul]
                exact pk_lEQ (by omega) (by omega)
              by_cases z : Gw t m v = v * 10 ^ m
              · exact ⟨_, _, (ob_some q1).trans ((ob_some (power_N hm)).trans ((if_pos e).trans (if_pos (hc.mpr z)))), (ob_some g1).trans ((ob_some w1).trans ((if_pos e).trans (if_neg (by rw [w3, if_pos z]; decide)))), rfl⟩
              · exact ⟨_, _, (ob_some q1).trans ((ob_some (power_N hm)).trans ((if_pos e).trans (if_neg (fun y => z (hc.mp y))))), (ob_some g1).trans ((ob_some w1).trans ((if_pos e).trans (if_pos (by rw [w3, if_neg z])))), rfl⟩
            · obtain ⟨k, k1, k2, k3, k4⟩ := low_X hm hg rfl
              rw [← q2] at k1
              have hlo : f_X5_lowest (w.2.2.2.1 (nI v).toNatClampNeg) w.1 p4 = some (if p4 = 0 then lN (Gw t m v / Nat.gcd (10 ^ m) (Gw t m v)) else lN (10 ^ m / Nat.gcd (10 ^ m) (Gw t m v))) := by
                rw [nI_clamp (show v < 2 ^ 31 by omega), w4, w2]
                exact low_M hg (by omega) k4 p4
              by_cases z : p4 = 0
              · rw [if_pos z] at hlo
                exact ⟨_, _, (ob_some q1).trans ((ob_some (power_N hm)).trans ((if_neg e).trans ((ob_some k1).trans (if_pos z)))), (ob_some g1).trans ((ob_some w1).trans ((if_neg e).trans ((chk_nI _ (by omega) (by decide)).trans (ob_some hlo)))), k2⟩
              · rw [if_neg z] at hlo
                exact ⟨_, _, (ob_some q1).trans ((ob_some (power_N hm)).trans ((if_neg e).trans ((ob_some k1).trans (if_neg z)))), (ob_some g1).trans ((ob_some w1).trans ((if_neg e).trans ((chk_nI _ (by omega) (by decide)).trans (ob_some hlo)))), k3⟩
