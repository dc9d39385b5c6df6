theorem fa_lt (a b : Int32) : a < b ↔ a.toInt < b.toInt := Int32.lt_iff_toInt_lt
theorem fa_le (a b : Int32) : a ≤ b ↔ a.toInt ≤ b.toInt := Int32.le_iff_toInt_le
theorem fa_eq (a b : Int32) : a = b ↔ a.toInt = b.toInt := Int32.toInt_inj.symm
theorem fa_lt64 (a b : Int64) : a < b ↔ a.toInt < b.toInt := Int64.lt_iff_toInt_lt
theorem fa_le64 (a b : Int64) : a ≤ b ↔ a.toInt ≤ b.toInt := Int64.le_iff_toInt_le
theorem fa_eq64 (a b : Int64) : a = b ↔ a.toInt = b.toInt := Int64.toInt_inj.symm
/-- a comparison of two ints taken as longs -/
theorem fa_wide_lt (a b : Int32) : a.toInt64 < b.toInt64 ↔ a < b := by rw [fa_lt64, fa_lt, Int32.toInt_toInt64, Int32.toInt_toInt64]
theorem fa_wide_le (a b : Int32) : a.toInt64 ≤ b.toInt64 ↔ a ≤ b := by rw [fa_le64, fa_le, Int32.toInt_toInt64, Int32.toInt_toInt64]
theorem fa_wide_eq (a b : Int32) : a.toInt64 = b.toInt64 ↔ a = b := by rw [fa_eq64, fa_eq, Int32.toInt_toInt64, Int32.toInt_toInt64]
/-- one strict comparison gives all the others -/
theorem fa_of_lt {a b : Int32} (h : a < b) : a ≤ b ∧ ¬ b ≤ a ∧ ¬ b < a ∧ a ≠ b ∧ b ≠ a := by
  rw [fa_lt] at h
  refine ⟨?_, ?_, ?_, ?_, ?_⟩
  · rw [fa_le]; omega
  · rw [fa_le]; omega
  · rw [fa_lt]; omega
  · intro e; rw [fa_eq] at e; omega
  · intro e; rw [fa_eq] at e; omega
theorem fa_of_nlt {a b : Int32} (h : ¬ a < b) : b ≤ a := by
  rw [fa_lt] at h
  rw [fa_le]
  omega
theorem fa_of_nle {a b : Int32} (h : ¬ a ≤ b) : b < a := by
  rw [fa_le] at h
  rw [fa_lt]
  omega
theorem fa_le_ne {a b : Int32} (h : a ≤ b) (h2 : a ≠ b) : a < b := by
  rw [fa_le] at h
  rw [fa_lt]
  have h3 : a.toInt ≠ b.toInt := fun e => h2 ((fa_eq a b).mpr e)
  omega
theorem fa_three (a b : Int32) : a < b ∨ a = b ∨ b < a := by
  rw [fa_lt, fa_lt, fa_eq]
  omega
theorem fa_trans {a b c : Int32} (h : a < b) (h2 : b ≤ c) : a < c := by
  rw [fa_lt] at *
  rw [fa_le] at h2
  omega
theorem fa_and (a b : Nat) : nI a &&& nI b = nI (a &&& b) := by
  apply Int32.toBitVec_inj.1
  show BitVec.ofNat 32 a &&& BitVec.ofNat 32 b = BitVec.ofNat 32 (a &&& b)
  apply BitVec.eq_of_getLsbD_eq
  intro i hi
  simp [hi]
theorem fa_or (a b : Nat) : nI a ||| nI b = nI (a ||| b) := by
  apply Int32.toBitVec_inj.1
  show BitVec.ofNat 32 a ||| BitVec.ofNat 32 b = BitVec.ofNat 32 (a ||| b)
  apply BitVec.eq_of_getLsbD_eq
  intro i hi
  simp [hi]
theorem fb_xorI (a b : Nat) : nI a ^^^ nI b = nI (a ^^^ b) := by
  apply Int32.toBitVec_inj.1
  show BitVec.ofNat 32 a ^^^ BitVec.ofNat 32 b = BitVec.ofNat 32 (a ^^^ b)
  apply BitVec.eq_of_getLsbD_eq
  intro i hi
  simp [hi]

/-! the values of rows and sets, as natural numbers -/
def ag (n : Nat) (f : Nat → Int32) (g : Nat → Nat) : Prop := ∀ j, j < n → f j = nI (g j)
theorem ag.at {n : Nat} {f : Nat → Int32} {g : Nat → Nat} (h : ag n f g) {j : Nat} (hj : j < n) (hn : n ≤ 1000) : f (nI j).toNatClampNeg = nI (g j) := by
  rw [nI_clamp (by omega)]
  exact h j hj
def updN (f : Nat → Nat) (k x : Nat) : Nat → Nat := fun j => if j = k then x else f j
theorem ag.upd {n : Nat} {f : Nat → Int32} {g : Nat → Nat} (h : ag n f g) {k x : Nat} (hk : k < 2 ^ 31) : ag n (upd f (nI k).toNatClampNeg (nI x)) (updN g k x) := by
  intro j hj
  rw [nI_clamp hk]
  unfold updN
  by_cases e : j = k
  · subst e
    rw [if_pos rfl, pk_us]
  · rw [if_neg e, pk_un e]
    exact h j hj
theorem updN_self {f : Nat → Nat} {k x : Nat} : updN f k x k = x := if_pos rfl
theorem updN_ne {f : Nat → Nat} {k x j : Nat} (h : j ≠ k) : updN f k x j = f j := if_neg h
/-! comparing -/
theorem cmp_lt0 (x y : Int64) : lg_cmp x y < 0 ↔ x.toInt < y.toInt := by
  unfold lg_cmp
  by_cases h : x > y
  · rw [if_pos h]
    have h2 : y.toInt < x.toInt := Int64.lt_iff_toInt_lt.mp h
    constructor
    · intro q; exact absurd q (by decide)
    · intro q; omega
  · rw [if_neg h]
    have h2 : ¬ y.toInt < x.toInt := fun q => h (Int64.lt_iff_toInt_lt.mpr q)
    by_cases e : x = y
    · rw [if_pos e]
      subst e
      constructor
      · intro q; exact absurd q (by decide)
      · intro q; omega
    · rw [if_neg e]
      have h3 : ¬ x.toInt = y.toInt := fun q => e (Int64.toInt_inj.mp q)
      constructor
      · intro _; omega
      · intro _; decide
theorem cmp_0lt (x y : Int64) : 0 < lg_cmp x y ↔ y.toInt < x.toInt := by
  unfold lg_cmp
  by_cases h : x > y
  · rw [if_pos h]
    have h2 : y.toInt < x.toInt := Int64.lt_iff_toInt_lt.mp h
    constructor
    · intro _; exact h2
    · intro _; decide
  · rw [if_neg h]
    have h2 : ¬ y.toInt < x.toInt := fun q => h (Int64.lt_iff_toInt_lt.mpr q)
    by_cases e : x = y
    · rw [if_pos e]
      constructor
      · intro q; exact absurd q (by decide)
      · intro q; exact absurd q h2
    · rw [if_neg e]
      constructor
      · intro q; exact absurd q (by decide)
      · intro q; exact absurd q h2
theorem cmp_eq0 (x y : Int64) : lg_cmp x y = 0 ↔ x = y := by
  unfold lg_cmp
  by_cases h : x > y
  · rw [if_pos h]
    have h2 : y.toInt < x.toInt := Int64.lt_iff_toInt_lt.mp h
    constructor
    · intro q; exact absurd q (by decide)
    · intro q; subst q; omega
  · rw [if_neg h]
    by_cases e : x = y
    · rw [if_pos e]
      exact ⟨fun _ => e, fun _ => rfl⟩
    · rw [if_neg e]
      exact ⟨fun q => absurd q (by decide), fun q => absurd q e⟩
theorem in_eq {x a b : Int32} {a' b' : Int64} (ha : a'.toInt = a.toInt) (hb : b'.toInt = b.toInt) : f_X5_in x.toInt64 a' b' = f_X4_isWithin x a b := by
  unfold f_X5_in f_X4_isWithin
  simp only [cmp_lt0, cmp_0lt, fa_lt x a, fa_lt b x, Int32.toInt_toInt64, ha, hb]
theorem wi_cases (x a b : Int32) : (f_X4_isWithin x a b = 0 ∧ ¬ (a.toInt ≤ x.toInt ∧ x.toInt ≤ b.toInt)) ∨ (f_X4_isWithin x a b = 1 ∧ a.toInt ≤ x.toInt ∧ x.toInt ≤ b.toInt) := by
  unfold f_X4_isWithin
  by_cases h : x < a
  · rw [if_pos h]
    rw [fa_lt] at h
    exact Or.inl ⟨rfl, by omega⟩
  · rw [if_neg h]
    rw [fa_lt] at h
    by_cases h2 : b < x
    · rw [if_pos h2]
      rw [fa_lt] at h2
      exact Or.inl ⟨rfl, by omega⟩
    · rw [if_neg h2]
      rw [fa_lt] at h2
      exact Or.inr ⟨rfl, by omega, by omega⟩
theorem nI_ofInt {x : Int32} (h : 0 ≤ x.toInt) : ∃ j : Nat, j < 2 ^ 31 ∧ x = nI j ∧ (j : Int) = x.toInt := by
  obtain ⟨j, hj, e⟩ := nI_of (x := x) (fun q => by rw [fa_lt] at q; exact absurd q (by show ¬ x.toInt < 0; omega))
  exact ⟨j, hj, e, by rw [e, nI_toInt hj]⟩
theorem wi_N (x : Int32) (lo hi : Nat) (hlo : lo < 2 ^ 31) (hhi : hi < 2 ^ 31) : f_X4_isWithin x (nI lo) (nI hi) = 0 ∨ (f_X4_isWithin x (nI lo) (nI hi) = 1 ∧ ∃ j, lo ≤ j ∧ j ≤ hi ∧ x = nI j) := by
  rcases wi_cases x (nI lo) (nI hi) with ⟨h, -⟩ | ⟨h, h1, h2⟩
  · exact Or.inl h
  · rw [nI_toInt hlo] at h1
    rw [nI_toInt hhi] at h2
    obtain ⟨j, hj, e, ej⟩ := nI_ofInt (x := x) (by omega)
    exact Or.inr ⟨h, j, by omega, by omega, e⟩
theorem wi_1 {j lo hi : Nat} (h1 : lo ≤ j) (h2 : j ≤ hi) (hhi : hi < 2 ^ 31) : f_X4_isWithin (nI j) (nI lo) (nI hi) = 1 := by
  unfold f_X4_isWithin
  rw [if_neg (nI_nlt h1 (by omega)), if_neg (nI_nlt h2 hhi)]
theorem wi_0 {j lo hi : Nat} (hj : j < 2 ^ 31) (hhi : hi < 2 ^ 31) (h : j < lo ∨ hi < j) (hlo : lo < 2 ^ 31) : f_X4_isWithin (nI j) (nI lo) (nI hi) = 0 := by
  unfold f_X4_isWithin
  rcases h with h | h
  · rw [if_pos (nI_lt h hlo)]
  · by_cases q : nI j < nI lo
    · rw [if_pos q]
    · rw [if_neg q, if_pos (nI_lt h hj)]
theorem isWord_eq (x : Int32) : f_X5_isWord x = f_X4_isWord x := in_eq (by decide) (by decide)
theorem isSpeaker_eq (x : Int32) : f_X5_isSpeaker x = f_X4_isSpeaker x := in_eq (by decide) (by decide)
theorem isWord_N (x : Int32) : f_X4_isWord x = 0 ∨ (f_X4_isWord x = 1 ∧ ∃ j, j < 12 ∧ x = nI j) := by
  rcases wi_N x 0 11 (by decide) (by decide) with h | ⟨h, j, -, h2, e⟩
  · exact Or.inl h
  · exact Or.inr ⟨h, j, by omega, e⟩
theorem isSpeaker_N (x : Int32) : f_X4_isSpeaker x = 0 ∨ (f_X4_isSpeaker x = 1 ∧ ∃ j, j < 4 ∧ x = nI j) := by
  rcases wi_N x 0 3 (by decide) (by decide) with h | ⟨h, j, -, h2, e⟩
  · exact Or.inl h
  · exact Or.inr ⟨h, j, by omega, e⟩
theorem isSet_N (x : Int32) : f_X4_isSet x = 0 ∨ (f_X4_isSet x = 1 ∧ ∃ j, j < 4096 ∧ x = nI j) := by
  rcases wi_N x 0 4095 (by decide) (by decide) with h | ⟨h, j, -, h2, e⟩
  · exact Or.inl h
  · exact Or.inr ⟨h, j, by omega, e⟩
theorem isWord_1 {j : Nat} (h : j < 12) : f_X4_isWord (nI j) = 1 := wi_1 (lo := 0) (hi := 11) (Nat.zero_le j) (by omega) (by decide)
theorem isSpeaker_1 {j : Nat} (h : j < 4) : f_X4_isSpeaker (nI j) = 1 := wi_1 (lo := 0) (hi := 3) (Nat.zero_le j) (by omega) (by decide)
theorem isSet_1 {j : Nat} (h : j < 4096) : f_X4_isSet (nI j) = 1 := wi_1 (lo := 0) (hi := 4095) (Nat.zero_le j) (by omega) (by decide)
theorem chk_nI {α : Type} {j n : Nat} (x : Option α) (h : j < n) (hn : n ≤ 1000) : chk (nI j) n x = x := chk_in x (vp_in_nI h (by omega))
theorem one_ne : ¬ (1 : Int32) = 0 := by decide
/-! loops: an invariant -/
theorem wh_inv {σ ρ τ : Type} {step : σ → Option (σ ⊕ ρ)} (emb : Nat → τ → σ) (P : Nat → τ → Prop) (Q : ρ → Prop) (N : Nat)
    (hs : ∀ j t, j < N → P j t → (∃ t', step (emb j t) = some (.inl (emb (j + 1) t')) ∧ P (j + 1) t') ∨ (∃ r, step (emb j t) = some (.inr r) ∧ Q r))
    (hx : ∀ t, P N t → ∃ r, step (emb N t) = some (.inr r) ∧ Q r) {fuel j0 : Nat} {t0 : τ} (hj : j0 ≤ N) (hf : N < fuel + j0) (h0 : P j0 t0) : ∃ r, wh step fuel (emb j0 t0) = some r ∧ Q r := by
  have key : ∀ k j t fuel, j + k = N → k < fuel → P j t → ∃ r, wh step fuel (emb j t) = some r ∧ Q r := by
    intro k
    induction k with
    | zero =>
      intro j t fuel hk hf h
      obtain ⟨f, rfl⟩ : ∃ f, fuel = f + 1 := ⟨fuel - 1, by omega⟩
      have : j = N := by omega
      subst this
      obtain ⟨r, h1, h2⟩ := hx t h
      exact ⟨r, by show ob (step _) _ = _; rw [h1]; rfl, h2⟩
    | succ k ih =>
      intro j t fuel hk hf h
      obtain ⟨f, rfl⟩ : ∃ f, fuel = f + 1 := ⟨fuel - 1, by omega⟩
      rcases hs j t (by omega) h with ⟨t', h1, h2⟩ | ⟨r, h1, h2⟩
      · obtain ⟨r, h3, h4⟩ := ih (j + 1) t' f (by omega) (by omega) h2
        exact ⟨r, by show ob (step _) _ = _; rw [h1]; exact h3, h4⟩
      · exact ⟨r, by show ob (step _) _ = _; rw [h1]; rfl, h2⟩
  exact key (N - j0) j0 t0 fuel (by omega) (by omega) h0
theorem ob_some {α β : Type} {x : Option α} {a : α} {f : α → Option β} (h : x = some a) : ob x f = f a := by rw [h]; rfl
theorem bd_eq {α β : Type} (x : α) (f : α → β) : bd x f = f x := rfl
/-! sums over rows -/
def sm (f : Nat → Nat) : Nat → Nat
  | 0 => 0
  | n + 1 => sm f n + f n
theorem sm_succ (f : Nat → Nat) (n : Nat) : sm f (n + 1) = sm f n + f n := rfl
theorem sm_cong {f g : Nat → Nat} : ∀ {n : Nat}, (∀ j, j < n → f j = g j) → sm f n = sm g n
  | 0, _ => rfl
  | n + 1, h => by rw [sm_succ, sm_succ, sm_cong (fun j hj => h j (by omega)), h n (by omega)]
theorem sm_le {f : Nat → Nat} {c : Nat} : ∀ {n : Nat}, (∀ j, j < n → f j ≤ c) → sm f n ≤ n * c
  | 0, _ => by simp [sm]
  | n + 1, h => by
    have h1 := sm_le (f := f) (c := c) (n := n) (fun j hj => h j (by omega))
    have h2 := h n (by omega)
    rw [sm_succ, Nat.succ_mul]
    omega
/-! sets as numbers -/
theorem bit31 : ∀ j, j < 32 → (nI j).toBitVec.smod 32 = BitVec.ofNat 32 j := by decide +kernel
theorem and31 {j : Nat} (h : j < 32) : nI j &&& 31 = nI j := by
  rw [pk_andN (n := j) (by omega) 5 (by decide)]
  rw [Nat.mod_eq_of_lt (by omega)]
theorem shN {j : Nat} (h : j < 32) : ((nI j).toBitVec.smod 32).toNat = j := by
  rw [bit31 j h, BitVec.toNat_ofNat, Nat.mod_eq_of_lt (by omega)]
theorem bitI {s j : Nat} (hs : s < 2 ^ 31) (hj : j < 31) : ((nI s >>> (nI j &&& 31)) &&& 1) = nI (s / 2 ^ j % 2) := by
  rw [and31 (by omega), pk_shrN hs (nI j) j (shN (by omega)), pk_andN (k := 1) (Nat.lt_of_le_of_lt (Nat.div_le_self _ _) (by omega)) (by decide)]
theorem tb_eq (s j : Nat) : s.testBit j = decide (s / 2 ^ j % 2 = 1) := Nat.testBit_eq_decide_div_mod_eq
theorem bit_1 {s j : Nat} (hs : s < 2 ^ 31) (hj : j < 31) : ((nI s >>> (nI j &&& 31)) &&& 1) = 1 ↔ s.testBit j = true := by
  rw [bitI hs hj, tb_eq, decide_eq_true_eq]
  constructor
  · intro h
    have := (nI_eq (a := s / 2 ^ j % 2) (b := 1) (by omega) (by decide)).mp h
    exact this
  · intro h
    rw [h]
    rfl
theorem isIn_N {s j : Nat} (hs : s < 2 ^ 31) (hj : j < 31) : f_X4_isIn (nI j) (nI s) = if s.testBit j = true then 1 else 0 := by
  unfold f_X4_isIn
  by_cases h : s.testBit j = true
  · rw [if_pos h, if_pos ((bit_1 hs hj).mpr h)]
  · rw [if_neg h, if_neg (fun q => h ((bit_1 hs hj).mp q))]
theorem one_shl {j : Nat} (h : j < 31) : (1 : Int32) <<< (nI j &&& 31) = nI (2 ^ j) := by
  rw [and31 (by omega)]
  have h2 : (2 : Nat) ^ j < 2 ^ 31 := Nat.pow_lt_pow_right (by decide) h
  have := pk_shlN (n := 1) (nI j) j (shN (by omega)) (by omega)
  rw [Nat.one_mul] at this
  exact this
theorem m1_nI : (-1 : Int32) = nI 4294967295 := by decide
/-- what is in a and not in b -/
def an (a b : Nat) : Nat := a &&& (b ^^^ 4095)
theorem an_tb {a b j : Nat} (ha : a < 4096) : (an a b).testBit j = (a.testBit j && !b.testBit j) := by
  unfold an
  rw [Nat.testBit_and, Nat.testBit_xor]
  by_cases h : j < 12
  · have : (4095 : Nat).testBit j = true := by
      have : (4095 : Nat) = 2 ^ 12 - 1 := rfl
      rw [this, Nat.testBit_two_pow_sub_one]
      simp [h]
    rw [this]
    simp
  · have : a.testBit j = false := Nat.testBit_lt_two_pow (by have : (2 : Nat) ^ 12 ≤ 2 ^ j := Nat.pow_le_pow_right (by decide) (by omega); omega)
    rw [this]
    simp
theorem an_lt {a b : Nat} (ha : a < 4096) : an a b < 4096 := Nat.lt_of_le_of_lt Nat.and_le_left ha
theorem andnot {a b : Nat} (ha : a < 4096) (hb : b < 4096) : nI a &&& (nI b ^^^ (-1)) = nI (an a b) := by
  rw [m1_nI, fb_xorI, fa_and]
  congr 1
  apply Nat.eq_of_testBit_eq
  intro j
  rw [an_tb ha, Nat.testBit_and, Nat.testBit_xor]
  by_cases h : j < 12
  · have : (4294967295 : Nat).testBit j = true := by
      have : (4294967295 : Nat) = 2 ^ 32 - 1 := rfl
      rw [this, Nat.testBit_two_pow_sub_one]
      simp
      omega
    rw [this]
    simp
  · have : a.testBit j = false := Nat.testBit_lt_two_pow (by have : (2 : Nat) ^ 12 ≤ 2 ^ j := Nat.pow_le_pow_right (by decide) (by omega); omega)
    rw [this]
    simp
theorem or_lt {a b : Nat} (ha : a < 4096) (hb : b < 4096) : a ||| b < 4096 := Nat.or_lt_two_pow (n := 12) ha hb
theorem p2_lt {j : Nat} (h : j < 12) : 2 ^ j < 4096 := Nat.pow_lt_pow_right (a := 2) (n := 12) (by decide) h
/-- how many words a set holds -/
def pc (s : Nat) : Nat := sm (fun j => if s.testBit j = true then 1 else 0) 12
theorem pc_le (s : Nat) : pc s ≤ 12 := by
  have := sm_le (f := fun j => if s.testBit j = true then 1 else 0) (c := 1) (n := 12) (fun j _ => by split <;> omega)
  exact this
theorem bitCount_all : (List.range 4096).all (fun s => decide (f_J6_bitCount_0f7a4 (nI s) = nI (pc s))) = true := by decide +kernel
theorem bitCount_N {s : Nat} (h : s < 4096) : f_J6_bitCount_0f7a4 (nI s) = nI (pc s) := by
  have := List.all_eq_true.mp bitCount_all s (List.mem_range.mpr h)
  exact of_decide_eq_true this
theorem ones_all : (List.range 4096).all (fun s => decide (f_X5_ones (nI s) = some (nI (pc s)))) = true := by decide +kernel
theorem ones_N {s : Nat} (h : s < 4096) : f_X5_ones (nI s) = some (nI (pc s)) := by
  have := List.all_eq_true.mp ones_all s (List.mem_range.mpr h)
  exact of_decide_eq_true this
