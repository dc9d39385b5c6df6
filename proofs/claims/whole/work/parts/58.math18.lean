/-! weather: the rows of the means -/
def Gw (t : Nat) : Nat → Nat → Nat
  | 0, p => p
  | d + 1, p => max (p * 10 ^ (d + 1)) (t * Gw t d (p + 1) + (10 - t) * Gw t d (p - 1))
def Wt (t d p : Nat) : Nat := t * Gw t d (p + 1) + (10 - t) * Gw t d (p - 1)
theorem Gw_succ (t d p : Nat) : Gw t (d + 1) p = max (p * 10 ^ (d + 1)) (Wt t d p) := rfl
theorem Wt_of {t d : Nat} (ht : t ≤ 10) (h : ∀ p, Gw t d p ≤ (p + d) * 10 ^ d) (p : Nat) : Wt t d p ≤ (p + (d + 1)) * 10 ^ (d + 1) := by
  have a1 : t * Gw t d (p + 1) ≤ t * ((p + (d + 1)) * 10 ^ d) := Nat.mul_le_mul_left t (by have := h (p + 1); rw [show p + 1 + d = p + (d + 1) by omega] at this; exact this)
  have a2 : (10 - t) * Gw t d (p - 1) ≤ (10 - t) * ((p + (d + 1)) * 10 ^ d) := Nat.mul_le_mul_left _ (Nat.le_trans (h (p - 1)) (Nat.mul_le_mul_right _ (by omega)))
  have a3 : t * ((p + (d + 1)) * 10 ^ d) + (10 - t) * ((p + (d + 1)) * 10 ^ d) = 10 * ((p + (d + 1)) * 10 ^ d) := by
    rw [← Nat.add_mul]
    congr 1
    omega
  have a4 : (p + (d + 1)) * 10 ^ (d + 1) = 10 * ((p + (d + 1)) * 10 ^ d) := by
    rw [Nat.pow_succ, Nat.mul_comm (10 ^ d) 10, Nat.mul_left_comm]
  rw [a4, ← a3]
  exact Nat.add_le_add a1 a2
theorem Gw_le {t : Nat} (ht : t ≤ 10) : ∀ d p, Gw t d p ≤ (p + d) * 10 ^ d
  | 0, p => by show p ≤ (p + 0) * 1; omega
  | d + 1, p => by
    rw [Gw_succ]
    exact Nat.max_le.mpr ⟨Nat.mul_le_mul_right _ (by omega), Wt_of ht (Gw_le ht d) p⟩
theorem tens {d : Nat} (hd : d ≤ 8) : 10 ^ d ≤ 100000000 := Nat.pow_le_pow_right (n := 10) (j := 8) (by decide) hd
theorem big {d p c : Nat} (hd : d ≤ 8) (hp : p + d ≤ 60) (h : c ≤ (p + d) * 10 ^ d) : c < 2 ^ 40 := by
  have h1 := tens hd
  have h2 : (p + d) * 10 ^ d ≤ 60 * 100000000 := Nat.mul_le_mul hp h1
  omega
theorem Gw_lt {t d p : Nat} (ht : t ≤ 10) (hd : d ≤ 8) (hp : p ≤ 48) : Gw t d p < 2 ^ 40 := big hd (by omega) (Gw_le ht d p)
theorem Wt_lt {t d p : Nat} (ht : t ≤ 10) (hd : d ≤ 7) (hp : p ≤ 48) : Wt t d p < 2 ^ 40 := big (d := d + 1) (p := p) (by omega) (by omega) (Wt_of ht (Gw_le ht d) p)
theorem pt_lt {d p : Nat} (hd : d ≤ 7) (hp : p ≤ 48) : p * 10 ^ (d + 1) < 2 ^ 40 := big (d := d + 1) (p := p) (by omega) (by omega) (Nat.mul_le_mul_right _ (by omega))
theorem at_once {d p : Nat} (hp : p ≤ 48) : (nI p).toInt64 * (lN (10 ^ d) * 10) = lN (p * 10 ^ (d + 1)) := by
  rw [nI_l (by omega), show lN (10 ^ d) * 10 = lN (10 ^ d * 10) from lN_mul _ 10, lN_mul, Nat.pow_succ]
theorem wait_X {t d p : Nat} (ht : t ≤ 10) : (nI t).toInt64 * lN (Gw t d (p + 1)) + (10 - nI t).toInt64 * lN (Gw t d (p - 1)) = lN (Wt t d p) := by
  rw [show (10 : Int32) - nI t = nI (10 - t) from pk_sub (a := 10) ht, nI_l (by omega), nI_l (by omega), lN_mul, lN_mul, lN_add]
  rfl
theorem wait_M {t d p : Nat} (ht : t ≤ 10) : (nI t).toInt64 * lN (Gw t d (p + 1)) + (10 - (nI t).toInt64) * lN (Gw t d (p - 1)) = lN (Wt t d p) := by
  rw [nI_l (by omega), show (10 : Int64) - lN t = lN (10 - t) from lN_sub (a := 10) ht, lN_mul, lN_mul, lN_add]
  rfl
theorem bmIn {t d : Nat} (ht : t ≤ 10) (hd : d ≤ 7) {f : Nat → Int64} (hf : ∀ p, p + d ≤ 48 → f p = lN (Gw t d p)) : ∃ r, wh (s_X4_bestMean_60 (nI t) (lN (10 ^ d))) 5000 (f 0, nI 0, f) = some r ∧ ∀ p, p + (d + 1) ≤ 48 → r.2.2 p = lN (Gw t (d + 1) p) :=
  wh_inv (step := s_X4_bestMean_60 (nI t) (lN (10 ^ d))) (emb := fun j (x : Int64 × (Nat → Int64)) => (x.1, nI j, x.2)) (P := fun j x => (∀ p, p < j → p + (d + 1) ≤ 48 → x.2 p = lN (Gw t (d + 1) p)) ∧ (∀ p, j ≤ p → p + d ≤ 48 → x.2 p = lN (Gw t d p)) ∧ (j + d ≤ 49 → x.1 = lN (Gw t d (j - 1)))) (Q := fun r => ∀ p, p + (d + 1) ≤ 48 → r.2.2 p = lN (Gw t (d + 1) p)) 48 (fun j x hj hx => by
    obtain ⟨a1, a2, a3⟩ := hx
    have hc : ¬ (49 : Int32) ≤ nI (j + 1) := nI_ge (b := 49) (by omega) (by decide)
    unfold s_X4_bestMean_60
    dsimp only
    rw [nI_1, if_neg hc, chk_nI _ (by omega) (by decide), chk_nI _ (by omega) (by decide), nI_clamp (by omega), nI_clamp (by omega)]
    refine Or.inl ⟨(x.2 j, vp_updL x.2 j (if (nI t).toInt64 * x.2 (j + 1) + (10 - nI t).toInt64 * x.1 < (nI j).toInt64 * (lN (10 ^ d) * 10) then (nI j).toInt64 * (lN (10 ^ d) * 10) else (nI t).toInt64 * x.2 (j + 1) + (10 - nI t).toInt64 * x.1)), rfl, ?_, ?_, ?_⟩
    · intro p hp hp2
      dsimp only
      by_cases e : p = j
      · subst e
        rw [pk_uLs, a2 (p + 1) (by omega) (by omega), a3 (by omega), wait_X ht, at_once (by omega), Gw_succ]
        have l1 := Wt_lt (p := p) ht hd (by omega)
        have l2 := pt_lt (p := p) hd (by omega)
        by_cases q : Wt t d p < p * 10 ^ (d + 1)
        · rw [if_pos ((pk_lLT (by omega) (by omega)).mpr q), Nat.max_eq_left (by omega)]
        · rw [if_neg (fun z => q ((pk_lLT (by omega) (by omega)).mp z)), Nat.max_eq_right (by omega)]
      · rw [pk_uLn e]
        exact a1 p (by omega) hp2
    · intro p hp hp2
      dsimp only
      rw [pk_uLn (by omega)]
      exact a2 p (by omega) hp2
    · intro h
      exact a2 j (Nat.le_refl j) (by omega)) (fun x hx => ⟨(x.1, nI 48, x.2), by
    unfold s_X4_bestMean_60
    dsimp only
    rw [if_pos (by decide)], fun p hp => hx.1 p (by omega) hp⟩) (fuel := 5000) (j0 := 0) (t0 := (f 0, f)) (by decide) (by decide) ⟨fun p hp => absurd hp (Nat.not_lt_zero p), fun p _ hp => hf p hp, fun _ => hf 0 (by omega)⟩
theorem fill_X (f : Nat → Int64) : ∃ r, wh s_X4_bestMean_3 5000 (nI 0, f) = some r ∧ ∀ p, p ≤ 48 → r.2 p = lN p :=
  wh_inv (step := s_X4_bestMean_3) (emb := fun j (x : Nat → Int64) => (nI j, x)) (P := fun j x => ∀ p, p < j → x p = lN p) (Q := fun r => ∀ p, p ≤ 48 → r.2 p = lN p) 49 (fun j x hj hx => by
    have hc : ¬ (49 : Int32) ≤ nI j := nI_ge (b := 49) hj (by decide)
    unfold s_X4_bestMean_3
    dsimp only
    rw [if_neg hc, nI_1, chk_nI _ hj (by decide), nI_clamp (by omega), nI_l (by omega)]
    refine Or.inl ⟨vp_updL x j (lN j), rfl, ?_⟩
    intro p hp
    by_cases e : p = j
    · subst e
      rw [pk_uLs]
    · rw [pk_uLn e]
      exact hx p (by omega)) (fun x hx => ⟨(nI 49, x), by
    unfold s_X4_bestMean_3
    dsimp only
    rw [if_pos (by decide)], fun p hp => hx p (by omega)⟩) (fuel := 5000) (j0 := 0) (t0 := f) (by decide) (by decide) (fun p hp => absurd hp (Nat.not_lt_zero p))
theorem fill_M (f : Nat → Int64) : ∃ r, wh s_X5_weather_65 5000 (nI 0, f) = some r ∧ ∀ p, p ≤ 48 → r.2 p = lN p :=
  wh_inv (step := s_X5_weather_65) (emb := fun j (x : Nat → Int64) => (nI j, x)) (P := fun j x => ∀ p, p < j → x p = lN p) (Q := fun r => ∀ p, p ≤ 48 → r.2 p = lN p) 50 (fun j x hj hx => by
    have hc : ¬ (50 : Int32) ≤ nI j := nI_ge (b := 50) hj (by decide)
    unfold s_X5_weather_65
    dsimp only
    rw [if_neg hc, nI_1, chk_nI _ hj (by decide), nI_clamp (by omega), nI_l (by omega)]
    refine Or.inl ⟨vp_updL x j (lN j), rfl, ?_⟩
    intro p hp
    by_cases e : p = j
    · subst e
      rw [pk_uLs]
    · rw [pk_uLn e]
      exact hx p (by omega)) (fun x hx => ⟨(nI 50, x), by
    unfold s_X5_weather_65
    dsimp only
    rw [if_pos (by decide)], fun p hp => hx p (by omega)⟩) (fuel := 5000) (j0 := 0) (t0 := f) (by decide) (by decide) (fun p hp => absurd hp (Nat.not_lt_zero p))
theorem bestMean_N (vfm : Nat → Int64) {v m t : Nat} (hv : v ≤ 40) (hm : m ≤ 8) (ht : t ≤ 10) : ∃ o, f_X4_bestMean vfm (nI v) (nI m) (nI t) = some o ∧ o.1 = lN (Gw t m v) := by
  obtain ⟨r, g1, g2⟩ := fill_X vfm
  obtain ⟨q, h1, h2⟩ := wh_inv (step := s_X4_bestMean_35 (nI m) (nI t)) (emb := fun j (x : Int64 × (Nat → Int64)) => (x.1, nI j, x.2)) (P := fun j x => ∃ d, j = d + 1 ∧ x.1 = lN (10 ^ d) ∧ ∀ p, p + d ≤ 48 → x.2 p = lN (Gw t d p)) (Q := fun q => ∀ p, p + m ≤ 48 → q.2.2 p = lN (Gw t m p)) (m + 1) (fun j x hj hx => by
    obtain ⟨d, rfl, a1, a2⟩ := hx
    obtain ⟨f1, f⟩ := x
    dsimp only at a1 a2
    subst a1
    obtain ⟨w, w1, w2⟩ := bmIn ht (by omega) a2
    refine Or.inl ⟨(lN (10 ^ (d + 1)), w.2.2), ?_, d + 1, rfl, rfl, w2⟩
    unfold s_X4_bestMean_35
    dsimp only
    rw [if_neg (nI_nlt (by omega) (by omega))]
    refine (ob_some w1).trans ?_
    rw [nI_1, show lN (10 ^ d) * 10 = lN (10 ^ d * 10) from lN_mul _ 10, Nat.pow_succ]) (fun x hx => by
    obtain ⟨d, e, a1, a2⟩ := hx
    have e : m = d := by omega
    subst e
    refine ⟨(x.1, nI (m + 1), x.2), ?_, a2⟩
    unfold s_X4_bestMean_35
    dsimp only
    rw [if_pos (nI_lt (by omega) (by omega))]) (fuel := 5000) (j0 := 1) (t0 := (1, r.2)) (by omega) (by omega) ⟨0, rfl, rfl, fun p hp => g2 p hp⟩
  refine ⟨(q.2.2 v, q.2.2), (ob_some g1).trans ((ob_some h1).trans ?_), h2 v (by omega)⟩
  rw [bd_eq, show f_X4_isWithin (nI v) 0 (49 - 1) = 1 from wi_1 (lo := 0) (hi := 48) (Nat.zero_le v) (by omega) (by decide), if_neg one_ne, chk_nI _ (by omega) (by decide), nI_clamp (by omega)]
theorem mwStep {v t d j : Nat} (ht : t ≤ 10) (hd : d ≤ 7) (hv : v ≤ 40) {br f : Nat → Int64} (a : Int32) (hb : ∀ p, p + d ≤ 48 → br p = lN (Gw t d p)) (hj : j + d < 48) : s_X5_weather_114 (nI v) (nI t) (lN (10 ^ d)) (nI (d + 1)) br (a, nI j, f) = some (.inl ((if j = v then (if Gw t (d + 1) j = j * 10 ^ (d + 1) then 1 else 0) else a), nI (j + 1), vp_updL f j (lN (Gw t (d + 1) j)))) := by
  have l1 := Wt_lt (p := j) ht hd (by omega)
  have l2 := pt_lt (p := j) hd (by omega)
  have hl : (48 : Int32) - nI (d + 1) = nI (48 - (d + 1)) := pk_sub (a := 48) (by omega)
  have hc : ¬ nI (48 - (d + 1)) < nI j := nI_nlt (by omega) (by omega)
  have hcm : (lg_cmp (lN (j * 10 ^ (d + 1))) (lN (Wt t d j)) < 0) ↔ j * 10 ^ (d + 1) < Wt t d j := by
    rw [cmp_lt0, pk_lT (by omega), pk_lT (by omega)]
    omega
  have hjv : nI j = nI v ↔ j = v := eqI (by omega) (by omega)
  have fin : (if nI j = nI v then (if lg_cmp (lN (j * 10 ^ (d + 1))) (lN (Wt t d j)) < 0 then (chk (nI j) 50 (some (.inl (0, nI (j + 1), vp_updL f j (lN (Wt t d j)))))) else (chk (nI j) 50 (some (.inl (1, nI (j + 1), vp_updL f j (lN (j * 10 ^ (d + 1)))))))) else (if lg_cmp (lN (j * 10 ^ (d + 1))) (lN (Wt t d j)) < 0 then (chk (nI j) 50 (some (.inl (a, nI (j + 1), vp_updL f j (lN (Wt t d j)))))) else (chk (nI j) 50 (some (.inl (a, nI (j + 1), vp_updL f j (lN (j * 10 ^ (d + 1)))))))) : Option ((Int32 × Int32 × (Nat → Int64)) ⊕ (Int32 × Int32 × (Nat → Int64)))) = some (.inl ((if j = v then (if Gw t (d + 1) j = j * 10 ^ (d + 1) then 1 else 0) else a), nI (j + 1), vp_updL f j (lN (Gw t (d + 1) j)))) := by
    rw [chk_nI _ (by omega) (by decide), chk_nI _ (by omega) (by decide), chk_nI _ (by omega) (by decide), chk_nI _ (by omega) (by decide), Gw_succ]
    by_cases e : j = v
    · rw [if_pos (hjv.mpr e), if_pos e]
      by_cases q : j * 10 ^ (d + 1) < Wt t d j
      · rw [if_pos (hcm.mpr q), Nat.max_eq_right (by omega), if_neg (by omega)]
      · rw [if_neg (fun z => q (hcm.mp z)), Nat.max_eq_left (by omega), if_pos rfl]
    · rw [if_neg (fun z => e (hjv.mp z)), if_neg e]
      by_cases q : j * 10 ^ (d + 1) < Wt t d j
      · rw [if_pos (hcm.mpr q), Nat.max_eq_right (by omega)]
      · rw [if_neg (fun z => q (hcm.mp z)), Nat.max_eq_left (by omega)]
  unfold s_X5_weather_114
  dsimp only
  rw [hl, if_neg hc, nI_1, chk_nI _ (by omega) (by decide), nI_clamp (show j + 1 < 2 ^ 31 by omega), nI_clamp (show j < 2 ^ 31 by omega), hb (j + 1) (by omega), at_once (by omega)]
  by_cases e0 : j = 0
  · subst e0
    rw [if_pos (show nI 0 ≤ 0 by decide), show (0 : Int32).toNatClampNeg = 0 from rfl, hb 0 (by omega), show (nI t).toInt64 * lN (Gw t d (0 + 1)) + (10 - (nI t).toInt64) * lN (Gw t d 0) = lN (Wt t d 0) from wait_M (p := 0) ht]
    exact fin
  · rw [if_neg (nI_nle (by omega) (by omega)), show nI j - 1 = nI (j - 1) from pk_sub (b := 1) (by omega), chk_nI _ (by omega) (by decide), nI_clamp (show j - 1 < 2 ^ 31 by omega), hb (j - 1) (by omega), wait_M ht]
    exact fin
theorem mwIn {v t d : Nat} (ht : t ≤ 10) (hd : d ≤ 7) (hv : v ≤ 40) {br bt : Nat → Int64} (a : Int32) (hb : ∀ p, p + d ≤ 48 → br p = lN (Gw t d p)) : ∃ r, wh (s_X5_weather_114 (nI v) (nI t) (lN (10 ^ d)) (nI (d + 1)) br) 5000 (a, nI 0, bt) = some r ∧ r.1 = (if Gw t (d + 1) v = v * 10 ^ (d + 1) then 1 else 0) ∧ ∀ p, p + (d + 1) ≤ 48 → r.2.2 p = lN (Gw t (d + 1) p) :=
  wh_inv (step := s_X5_weather_114 (nI v) (nI t) (lN (10 ^ d)) (nI (d + 1)) br) (emb := fun j (x : Int32 × (Nat → Int64)) => (x.1, nI j, x.2)) (P := fun j x => (v < j → x.1 = (if Gw t (d + 1) v = v * 10 ^ (d + 1) then 1 else 0)) ∧ ∀ p, p < j → x.2 p = lN (Gw t (d + 1) p)) (Q := fun r => r.1 = (if Gw t (d + 1) v = v * 10 ^ (d + 1) then 1 else 0) ∧ ∀ p, p + (d + 1) ≤ 48 → r.2.2 p = lN (Gw t (d + 1) p)) (48 - d) (fun j x hj hx => Or.inl ⟨((if j = v then (if Gw t (d + 1) j = j * 10 ^ (d + 1) then 1 else 0) else x.1), vp_updL x.2 j (lN (Gw t (d + 1) j))), mwStep ht hd hv x.1 hb (by omega), by
    intro h
    dsimp only
    by_cases e : j = v
    · subst e
      rw [if_pos rfl]
    · rw [if_neg e]
      exact hx.1 (by omega), by
    intro p hp
    dsimp only
    by_cases e : p = j
    · subst e
      rw [pk_uLs]
    · rw [pk_uLn e]
      exact hx.2 p (by omega)⟩) (fun x hx => ⟨(x.1, nI (48 - d), x.2), by
    have hl : (48 : Int32) - nI (d + 1) = nI (48 - (d + 1)) := pk_sub (a := 48) (by omega)
    unfold s_X5_weather_114
    dsimp only
    rw [hl, if_pos (nI_lt (by omega) (by omega))], hx.1 (by omega), fun p hp => hx.2 p (by omega)⟩) (fuel := 5000) (j0 := 0) (t0 := (a, bt)) (by omega) (by omega) ⟨fun h => absurd h (Nat.not_lt_zero v), fun p hp => absurd hp (Nat.not_lt_zero p)⟩
theorem mwCopy {d : Nat} (hd : d ≤ 7) (g f : Nat → Int64) : ∃ r, wh (s_X5_weather_233 (nI (d + 1)) g) 5000 (nI 0, f) = some r ∧ ∀ p, p + (d + 1) ≤ 48 → r.2 p = g p :=
  wh_inv (step := s_X5_weather_233 (nI (d + 1)) g) (emb := fun j (x : Nat → Int64) => (nI j, x)) (P := fun j x => ∀ p, p < j → x p = g p) (Q := fun r => ∀ p, p + (d + 1) ≤ 48 → r.2 p = g p) (48 - d) (fun j x hj hx => by
    have hl : (48 : Int32) - nI (d + 1) = nI (48 - (d + 1)) := pk_sub (a := 48) (by omega)
    have hc : ¬ nI (48 - (d + 1)) < nI j := nI_nlt (by omega) (by omega)
    unfold s_X5_weather_233
    dsimp only
    rw [hl, if_neg hc, nI_1, chk_nI _ (by omega) (by decide), nI_clamp (by omega)]
    refine Or.inl ⟨vp_updL x j (g j), rfl, ?_⟩
    intro p hp
    by_cases e : p = j
    · subst e
      rw [pk_uLs]
    · rw [pk_uLn e]
      exact hx p (by omega)) (fun x hx => ⟨(nI (48 - d), x), by
    have hl : (48 : Int32) - nI (d + 1) = nI (48 - (d + 1)) := pk_sub (a := 48) (by omega)
    unfold s_X5_weather_233
    dsimp only
    rw [hl, if_pos (nI_lt (by omega) (by omega))], fun p hp => hx p (by omega)⟩) (fuel := 5000) (j0 := 0) (t0 := f) (by omega) (by omega) (fun p hp => absurd hp (Nat.not_lt_zero p))
theorem means_M {v m t : Nat} (hv : v ≤ 40) (hm : m ≤ 8) (ht : t ≤ 10) (br bt : Nat → Int64) (hb : ∀ p, p ≤ 48 → br p = lN p) : ∃ r, wh (s_X5_weather_97 (nI v) (nI m) (nI t)) 5000 (1, 1, nI 1, br, bt) = some r ∧ r.1 = lN (10 ^ m) ∧ r.2.1 = (if Gw t m v = v * 10 ^ m then 1 else 0) ∧ r.2.2.2.1 v = lN (Gw t m v) :=
  wh_inv (step := s_X5_weather_97 (nI v) (nI m) (nI t)) (emb := fun j (x : (Int64 × Int32) × ((Nat → Int64) × (Nat → Int64))) => (x.1.1, x.1.2, nI j, x.2)) (P := fun j x => ∃ d, j = d + 1 ∧ x.1.1 = lN (10 ^ d) ∧ x.1.2 = (if Gw t d v = v * 10 ^ d then 1 else 0) ∧ ∀ p, p + d ≤ 48 → x.2.1 p = lN (Gw t d p)) (Q := fun r => r.1 = lN (10 ^ m) ∧ r.2.1 = (if Gw t m v = v * 10 ^ m then 1 else 0) ∧ r.2.2.2.1 v = lN (Gw t m v)) (m + 1) (fun j x hj hx => by
    obtain ⟨d, rfl, a1, a2, a3⟩ := hx
    obtain ⟨⟨f1, f2⟩, f, g⟩ := x
    dsimp only at a1 a2 a3
    subst a1
    obtain ⟨w, w1, w2, w3⟩ := mwIn (bt := g) ht (by omega) hv f2 a3
    obtain ⟨u, u1, u2⟩ := mwCopy (d := d) (by omega) w.2.2 f
    refine Or.inl ⟨((lN (10 ^ (d + 1)), w.1), (u.2, w.2.2)), ?_, d + 1, rfl, rfl, w2, fun p hp => (u2 p hp).trans (w3 p hp)⟩
    unfold s_X5_weather_97
    dsimp only
    rw [if_neg (nI_nlt (by omega) (by omega))]
    refine (ob_some w1).trans ((ob_some u1).trans ?_)
    rw [nI_1, show lN (10 ^ d) * 10 = lN (10 ^ d * 10) from lN_mul _ 10, Nat.pow_succ]) (fun x hx => by
    obtain ⟨d, e, a1, a2, a3⟩ := hx
    have e : m = d := by omega
    subst e
    refine ⟨(x.1.1, x.1.2, nI (m + 1), x.2), ?_, a1, a2, a3 v (by omega)⟩
    unfold s_X5_weather_97
    dsimp only
    rw [if_pos (nI_lt (by omega) (by omega))]) (fuel := 5000) (j0 := 1) (t0 := ((1, 1), (br, bt))) (by omega) (by omega) ⟨0, rfl, rfl, (if_pos (Nat.mul_one v).symm).symm, fun p hp => hb p hp⟩
