/-! the signs, read by both sides -/
def due (q : Nat) : Nat := if q = 2 then 3 else if q = 3 then 2 else q
def nx (q : Nat) (a k d o c : Nat) : Option (Nat × Nat × Nat × Nat × Nat) :=
  if q = 0 then (if c = 46 then some (0, 4, k, d, o) else if 65 ≤ c ∧ c ≤ 68 then some (1, 2, c - 65, d, o) else none)
  else if q = 1 then (if c = 43 then some (3, 0, k, d, o) else if c = 45 then some (3, 1, k, d, o) else if c = 62 then some (2, 3, k, d, o) else if 97 ≤ c ∧ c ≤ 108 then some (0, a, k, c - 97, o) else none)
  else if q = 2 then (if 65 ≤ c ∧ c ≤ 68 then some (3, a, k, d, c - 65) else none)
  else (if 97 ≤ c ∧ c ≤ 108 then some (0, a, k, c - 97, o) else none)
theorem sign_all : ∀ c, c < 127 → f_X4_isSpeaker (nI c - 65) = (if 65 ≤ c ∧ c ≤ 68 then 1 else 0) ∧ f_X4_isWord (nI c - 97) = (if 97 ≤ c ∧ c ≤ 108 then 1 else 0) ∧ f_X5_in (nI c).toInt64 65 68 = (if 65 ≤ c ∧ c ≤ 68 then 1 else 0) ∧ f_X5_in (nI c).toInt64 97 108 = (if 97 ≤ c ∧ c ≤ 108 then 1 else 0) ∧ (65 ≤ c → nI c - 65 = nI (c - 65)) ∧ (97 ≤ c → nI c - 97 = nI (c - 97)) ∧ (nI c = 46 ↔ c = 46) ∧ (nI c = 43 ↔ c = 43) ∧ (nI c = 45 ↔ c = 45) ∧ (nI c = 62 ↔ c = 62) := by decide +kernel
theorem takeSp_N {c : Nat} (hc : c < 127) (aw ac sp : Int32) : f_X0_takeSpeaker aw ac sp (nI c) = if 65 ≤ c ∧ c ≤ 68 then (1, 1, 2, nI (c - 65)) else (0, aw, ac, sp) := by
  obtain ⟨s1, -, -, -, s5, -⟩ := sign_all c hc
  unfold f_X0_takeSpeaker
  rw [bd_eq, s1]
  by_cases e : 65 ≤ c ∧ c ≤ 68
  · rw [if_pos e, if_neg one_ne, if_pos e, s5 e.1]
  · rw [if_neg e, if_pos rfl, if_neg e]
theorem takeOt_N {c : Nat} (hc : c < 127) (aw ot : Int32) : f_X0_takeOther aw ot (nI c) = if 65 ≤ c ∧ c ≤ 68 then (1, 3, nI (c - 65)) else (0, aw, ot) := by
  obtain ⟨s1, -, -, -, s5, -⟩ := sign_all c hc
  unfold f_X0_takeOther
  rw [bd_eq, s1]
  by_cases e : 65 ≤ c ∧ c ≤ 68
  · rw [if_pos e, if_neg one_ne, if_pos e, s5 e.1]
  · rw [if_neg e, if_pos rfl, if_neg e]
theorem takeWo_N {c : Nat} (hc : c < 127) (aw wo : Int32) : f_X0_takeWord aw wo (nI c) = if 97 ≤ c ∧ c ≤ 108 then (1, 0, nI (c - 97)) else (0, aw, wo) := by
  obtain ⟨-, s1, -, -, -, s5, -⟩ := sign_all c hc
  unfold f_X0_takeWord
  rw [bd_eq, s1]
  by_cases e : 97 ≤ c ∧ c ≤ 108
  · rw [if_pos e, if_neg one_ne, if_pos e, s5 e.1]
  · rw [if_neg e, if_pos rfl, if_neg e]
theorem take_N {q a k d o c : Nat} (hq : q ≤ 3) (hc : c < 127) {ac : Int32} (ha : ¬ q = 0 → ac = nI a) :
    (∀ q' a' k' d' o', nx q a k d o c = some (q', a', k', d', o') → f_X0_take (nI q) ac (nI k) (nI d) (nI o) (nI c) = (1, nI q', nI a', nI k', nI d', nI o')) ∧ (nx q a k d o c = none → ∃ x y, f_X0_take (nI q) ac (nI k) (nI d) (nI o) (nI c) = (0, x, y, nI k, nI d, nI o)) := by
  obtain ⟨-, -, -, -, -, -, s7, s8, s9, s10⟩ := sign_all c hc
  unfold f_X0_take nx
  simp only [bd_eq]
  rcases (show q = 0 ∨ q = 1 ∨ q = 2 ∨ q = 3 by omega) with rfl | rfl | rfl | rfl
  · rw [if_pos rfl, if_pos (show nI 0 = 0 from rfl)]
    unfold f_X0_takeDot
    by_cases e : c = 46
    · rw [if_pos e, if_pos (s7.mpr e), if_neg (show ¬ (1 : Int32) = 0 by decide)]
      exact ⟨fun q' a' k' d' o' h => by injection h with h; injection h with h1 h; injection h with h2 h; injection h with h3 h; injection h with h4 h5; subst h1; subst h2; subst h3; subst h4; subst h5; rfl, fun h => nomatch h⟩
    · rw [if_neg e, if_neg (fun z => e (s7.mp z)), if_pos (show (0 : Int32) = 0 from rfl), takeSp_N hc]
      by_cases e2 : 65 ≤ c ∧ c ≤ 68
      · rw [if_pos e2, if_pos e2, if_neg (show ¬ (1 : Int32) = 0 by decide)]
        exact ⟨fun q' a' k' d' o' h => by injection h with h; injection h with h1 h; injection h with h2 h; injection h with h3 h; injection h with h4 h5; subst h1; subst h2; subst h3; subst h4; subst h5; rfl, fun h => nomatch h⟩
      · rw [if_neg e2, if_neg e2, if_pos (show (0 : Int32) = 0 from rfl)]
        exact ⟨fun _ _ _ _ _ h => (nomatch h), fun _ => ⟨_, _, rfl⟩⟩
  · rw [if_neg (show ¬ 1 = 0 by decide), if_pos rfl, if_neg (show ¬ nI 1 = 0 by decide), if_pos (show nI 1 = 1 from rfl), ha (by decide)]
    unfold f_X0_takeMark
    by_cases e : c = 43
    · rw [if_pos e, if_pos (s8.mpr e), if_neg (show ¬ (1 : Int32) = 0 by decide)]
      exact ⟨fun q' a' k' d' o' h => by injection h with h; injection h with h1 h; injection h with h2 h; injection h with h3 h; injection h with h4 h5; subst h1; subst h2; subst h3; subst h4; subst h5; rfl, fun h => nomatch h⟩
    · rw [if_neg e, if_neg (fun z => e (s8.mp z))]
      by_cases e1 : c = 45
      · rw [if_pos e1, if_pos (s9.mpr e1), if_neg (show ¬ (1 : Int32) = 0 by decide)]
        exact ⟨fun q' a' k' d' o' h => by injection h with h; injection h with h1 h; injection h with h2 h; injection h with h3 h; injection h with h4 h5; subst h1; subst h2; subst h3; subst h4; subst h5; rfl, fun h => nomatch h⟩
      · rw [if_neg e1, if_neg (fun z => e1 (s9.mp z))]
        by_cases e2 : c = 62
        · rw [if_pos e2, if_pos (s10.mpr e2), if_neg (show ¬ (1 : Int32) = 0 by decide)]
          exact ⟨fun q' a' k' d' o' h => by injection h with h; injection h with h1 h; injection h with h2 h; injection h with h3 h; injection h with h4 h5; subst h1; subst h2; subst h3; subst h4; subst h5; rfl, fun h => nomatch h⟩
        · rw [if_neg e2, if_neg (fun z => e2 (s10.mp z)), if_pos (show (0 : Int32) = 0 from rfl), takeWo_N hc]
          by_cases e3 : 97 ≤ c ∧ c ≤ 108
          · rw [if_pos e3, if_pos e3, if_neg (show ¬ (1 : Int32) = 0 by decide)]
            exact ⟨fun q' a' k' d' o' h => by injection h with h; injection h with h1 h; injection h with h2 h; injection h with h3 h; injection h with h4 h5; subst h1; subst h2; subst h3; subst h4; subst h5; rfl, fun h => nomatch h⟩
          · rw [if_neg e3, if_neg e3, if_pos (show (0 : Int32) = 0 from rfl)]
            exact ⟨fun _ _ _ _ _ h => (nomatch h), fun _ => ⟨_, _, rfl⟩⟩
  · rw [if_neg (show ¬ 2 = 0 by decide), if_neg (show ¬ 2 = 1 by decide), if_pos rfl, if_neg (show ¬ nI 2 = 0 by decide), if_neg (show ¬ nI 2 = 1 by decide), if_pos (show nI 2 = 2 from rfl), takeOt_N hc, ha (by decide)]
    by_cases e3 : 65 ≤ c ∧ c ≤ 68
    · rw [if_pos e3, if_pos e3]
      exact ⟨fun q' a' k' d' o' h => by injection h with h; injection h with h1 h; injection h with h2 h; injection h with h3 h; injection h with h4 h5; subst h1; subst h2; subst h3; subst h4; subst h5; rfl, fun h => nomatch h⟩
    · rw [if_neg e3, if_neg e3]
      exact ⟨fun _ _ _ _ _ h => (nomatch h), fun _ => ⟨_, _, rfl⟩⟩
  · rw [if_neg (show ¬ 3 = 0 by decide), if_neg (show ¬ 3 = 1 by decide), if_neg (show ¬ 3 = 2 by decide), if_neg (show ¬ nI 3 = 0 by decide), if_neg (show ¬ nI 3 = 1 by decide), if_neg (show ¬ nI 3 = 2 by decide), takeWo_N hc, ha (by decide)]
    by_cases e3 : 97 ≤ c ∧ c ≤ 108
    · rw [if_pos e3, if_pos e3]
      exact ⟨fun q' a' k' d' o' h => by injection h with h; injection h with h1 h; injection h with h2 h; injection h with h3 h; injection h with h4 h5; subst h1; subst h2; subst h3; subst h4; subst h5; rfl, fun h => nomatch h⟩
    · rw [if_neg e3, if_neg e3]
      exact ⟨fun _ _ _ _ _ h => (nomatch h), fun _ => ⟨_, _, rfl⟩⟩
/-- an act half read -/
def PM (q a k o m : Nat) (fa fk fo : Nat → Int32) : Prop := a ≤ 3 ∧ fk m = nI k ∧ (q = 1 → a = 2) ∧ (q = 2 → a = 3) ∧ (¬ q = 1 → fa m = nI a) ∧ ∃ o', o' < 4 ∧ fo m = nI o' ∧ (q = 3 → a = 3 → o' = o)
/-- an act read by both -/
def SA (a k d o : Nat) (B : Nat × Nat × Nat × Nat) : Prop := okA B ∧ a = B.1 ∧ (¬ a = 4 → k = B.2.1 ∧ d = B.2.2.1) ∧ (a = 3 → o = B.2.2.2)
def setA (A : Nat → Nat × Nat × Nat × Nat) (m : Nat) (B : Nat × Nat × Nat × Nat) : Nat → Nat × Nat × Nat × Nat := fun i => if i = m then B else A i
theorem setA_self {A : Nat → Nat × Nat × Nat × Nat} {m : Nat} {B : Nat × Nat × Nat × Nat} : setA A m B m = B := if_pos rfl
theorem setA_ne {A : Nat → Nat × Nat × Nat × Nat} {m i : Nat} {B : Nat × Nat × Nat × Nat} (h : i ≠ m) : setA A m B i = A i := if_neg h
theorem MR_far {m : Nat} {fa fk fd fo ga gk gd go : Nat → Int32} {A : Nat → Nat × Nat × Nat × Nat} (h : MR m fa fk fd fo A) (ha : ∀ i, i < m → ga i = fa i) (hk : ∀ i, i < m → gk i = fk i) (hd : ∀ i, i < m → gd i = fd i) (ho : ∀ i, i < m → go i = fo i) : MR m ga gk gd go A := fun i hi => by
  rw [ha i hi, hk i hi, hd i hi, ho i hi]
  exact h i hi
theorem MR_add {m : Nat} {fa fk fd fo : Nat → Int32} {A : Nat → Nat × Nat × Nat × Nat} {B : Nat × Nat × Nat × Nat} (h : MR m fa fk fd fo A) (hB : okA B) (ha : fa m = nI B.1) (hk : fk m = nI B.2.1) (hd : fd m = nI B.2.2.1) (ho : fo m = nI B.2.2.2) : MR (m + 1) fa fk fd fo (setA A m B) := fun i hi => by
  by_cases e : i = m
  · subst e
    rw [setA_self]
    exact ⟨hB, ha, hk, hd, ho⟩
  · rw [setA_ne e]
    exact h i (by omega)
theorem far {f : Nat → Int32} {m : Nat} {v : Int32} (hm : m < 60) : ∀ i, i < m → upd f (nI m).toNatClampNeg v i = f i := fun i hi => by
  rw [nI_clamp (by omega), pk_un (by omega)]
theorem hit {f : Nat → Int32} {m : Nat} {v : Int32} (hm : m < 60) : upd f (nI m).toNatClampNeg v m = v := by
  rw [nI_clamp (by omega), pk_us]
theorem readOn_N {q a k d o c m : Nat} (hq : q ≤ 3) (hc : c < 127) (hm : m < 60) {fa fk fd fo : Nat → Int32} {A : Nat → Nat × Nat × Nat × Nat} (hk : k < 4) (hR : MR m fa fk fd fo A) (hP : ¬ q = 0 → PM q a k o m fa fk fo) :
    ∃ r, f_X5_readOn fa fk fd fo (nI m) (nI (due q)) (nI c) = some r ∧ (nx q a k d o c = none → r.1 = -6) ∧ (∀ q' a' k' d' o', nx q a k d o c = some (q', a', k', d', o') → r.1 = nI (due q') ∧ q' ≤ 3 ∧ k' < 4 ∧ (d < 12 → d' < 12) ∧ (o < 4 → o' < 4) ∧ (q' = 0 → ∃ B, SA a' k' d' o' B ∧ r.2.2.2.2.2 = nI (m + 1) ∧ MR (m + 1) r.2.1 r.2.2.1 r.2.2.2.1 r.2.2.2.2.1 (setA A m B)) ∧ (¬ q' = 0 → r.2.2.2.2.2 = nI m ∧ MR m r.2.1 r.2.2.1 r.2.2.2.1 r.2.2.2.2.1 A ∧ PM q' a' k' o' m r.2.1 r.2.2.1 r.2.2.2.2.1)) := by
  obtain ⟨-, -, s3, s4, s5, s6, s7, s8, s9, s10⟩ := sign_all c hc
  have ch : ∀ {α : Type} (x : Option α), chk (nI m) 60 x = x := fun x => chk_nI x hm (by decide)
  unfold f_X5_readOn nx
  rcases (show q = 0 ∨ q = 1 ∨ q = 2 ∨ q = 3 by omega) with rfl | rfl | rfl | rfl
  · rw [show due 0 = 0 from rfl, if_pos (show nI 0 = 0 from rfl), if_pos rfl]
    unfold f_X5_begin
    rw [bd_eq, s3, ch]
    by_cases e : c = 46
    · rw [if_neg (show ¬ (65 ≤ c ∧ c ≤ 68) by omega), if_pos rfl, if_pos (s7.mpr e), if_pos e, bd_eq]
      refine ⟨_, rfl, fun h => (nomatch h), fun q' a' k' d' o' h => ?_⟩
      injection h with h; injection h with h1 h; injection h with h2 h; injection h with h3 h; injection h with h4 h5; subst h1; subst h2; subst h3; subst h4; subst h5
      refine ⟨rfl, by decide, hk, fun z => z, fun z => z, fun _ => ⟨(4, 0, 0, 0), ⟨⟨by decide, by decide, by decide, by decide⟩, rfl, fun z => absurd rfl z, fun z => absurd z (by decide)⟩, nI_1 m, ?_⟩, fun z => absurd rfl z⟩
      exact MR_add (MR_far hR (far hm) (far hm) (far hm) (far hm)) ⟨by decide, by decide, by decide, by decide⟩ (hit hm) (hit hm) (hit hm) (hit hm)
    · rw [if_neg (fun z => e (s7.mp z)), if_neg e]
      by_cases e2 : 65 ≤ c ∧ c ≤ 68
      · rw [if_pos e2, if_neg one_ne, if_pos e2, s5 e2.1]
        refine ⟨_, rfl, fun h => (nomatch h), fun q' a' k' d' o' h => ?_⟩
        injection h with h; injection h with h1 h; injection h with h2 h; injection h with h3 h; injection h with h4 h5; subst h1; subst h2; subst h3; subst h4; subst h5
        exact ⟨rfl, by decide, by omega, fun z => z, fun z => z, fun z => absurd z (by decide), fun _ => ⟨rfl, MR_far hR (far hm) (far hm) (far hm) (far hm), by decide, hit hm, fun _ => rfl, fun z => absurd z (by decide), fun z => absurd rfl z, 0, by decide, hit hm, fun z => absurd z (by decide)⟩⟩
      · rw [if_neg e2, if_pos rfl, if_neg e2]
        exact ⟨_, rfl, fun _ => rfl, fun _ _ _ _ _ h => (nomatch h)⟩
  · obtain ⟨p1, p2, p3, p4, p5, o', p6, p7, p8⟩ := hP (by decide)
    rw [show due 1 = 1 from rfl, if_neg (show ¬ nI 1 = 0 by decide), if_pos (show nI 1 = 1 from rfl), if_neg (show ¬ 1 = 0 by decide), if_pos rfl]
    unfold f_X5_deed
    rw [bd_eq, s4, ch, ch, ch, ch, bd_eq]
    by_cases e : c = 43
    · rw [if_neg (show ¬ (97 ≤ c ∧ c ≤ 108) by omega), if_pos rfl, if_pos (s8.mpr e), if_pos e]
      refine ⟨_, rfl, fun h => (nomatch h), fun q' a' k' d' o' h => ?_⟩
      injection h with h; injection h with h1 h; injection h with h2 h; injection h with h3 h; injection h with h4 h5; subst h1; subst h2; subst h3; subst h4; subst h5
      exact ⟨rfl, by decide, hk, fun z => z, fun z => z, fun z => absurd z (by decide), fun _ => ⟨rfl, MR_far hR (far hm) (fun _ _ => rfl) (far hm) (fun _ _ => rfl), by decide, p2, fun z => absurd z (by decide), fun z => absurd z (by decide), fun _ => hit hm, _, p6, p7, fun _ z => absurd z (by decide)⟩⟩
    · rw [if_neg (fun z => e (s8.mp z)), if_neg e]
      by_cases e1 : c = 45
      · rw [if_neg (show ¬ (97 ≤ c ∧ c ≤ 108) by omega), if_pos rfl, if_pos (s9.mpr e1), if_pos e1]
        refine ⟨_, rfl, fun h => (nomatch h), fun q' a' k' d' o' h => ?_⟩
        injection h with h; injection h with h1 h; injection h with h2 h; injection h with h3 h; injection h with h4 h5; subst h1; subst h2; subst h3; subst h4; subst h5
        exact ⟨rfl, by decide, hk, fun z => z, fun z => z, fun z => absurd z (by decide), fun _ => ⟨rfl, MR_far hR (far hm) (fun _ _ => rfl) (far hm) (fun _ _ => rfl), by decide, p2, fun z => absurd z (by decide), fun z => absurd z (by decide), fun _ => hit hm, _, p6, p7, fun _ z => absurd z (by decide)⟩⟩
      · rw [if_neg (fun z => e1 (s9.mp z)), if_neg e1]
        by_cases e2 : c = 62
        · rw [if_neg (show ¬ (97 ≤ c ∧ c ≤ 108) by omega), if_pos rfl, if_pos (s10.mpr e2), if_pos e2]
          refine ⟨_, rfl, fun h => (nomatch h), fun q' a' k' d' o' h => ?_⟩
          injection h with h; injection h with h1 h; injection h with h2 h; injection h with h3 h; injection h with h4 h5; subst h1; subst h2; subst h3; subst h4; subst h5
          exact ⟨rfl, by decide, hk, fun z => z, fun z => z, fun z => absurd z (by decide), fun _ => ⟨rfl, MR_far hR (far hm) (fun _ _ => rfl) (far hm) (fun _ _ => rfl), by decide, p2, fun z => absurd z (by decide), fun _ => rfl, fun _ => hit hm, _, p6, p7, fun z => absurd z (by decide)⟩⟩
        · rw [if_neg (fun z => e2 (s10.mp z)), if_neg e2]
          by_cases e3 : 97 ≤ c ∧ c ≤ 108
          · rw [if_pos e3, if_neg one_ne, if_pos e3, s6 e3.1]
            refine ⟨_, rfl, fun h => (nomatch h), fun q' a' k' d' o2 h => ?_⟩
            injection h with h; injection h with h1 h; injection h with h2 h; injection h with h3 h; injection h with h4 h5; subst h1; subst h2; subst h3; subst h4; subst h5
            have ea := p3 rfl
            subst ea
            refine ⟨rfl, by decide, hk, fun _ => by omega, fun z => z, fun _ => ⟨(2, k, c - 97, o'), ⟨⟨by show 2 ≤ 4; decide, hk, by show c - 97 < 12; omega, p6⟩, rfl, fun _ => ⟨rfl, rfl⟩, fun z => absurd z (by decide)⟩, nI_1 m, ?_⟩, fun z => absurd rfl z⟩
            exact MR_add (MR_far hR (far hm) (fun _ _ => rfl) (far hm) (fun _ _ => rfl)) ⟨by show 2 ≤ 4; decide, hk, by show c - 97 < 12; omega, p6⟩ (hit hm) p2 (hit hm) p7
          · rw [if_neg e3, if_pos rfl, if_neg e3]
            exact ⟨_, rfl, fun _ => rfl, fun _ _ _ _ _ h => (nomatch h)⟩
  · obtain ⟨p1, p2, p3, p4, p5, o', p6, p7, p8⟩ := hP (by decide)
    have ea := p4 rfl
    subst ea
    rw [show due 2 = 3 from rfl, if_neg (show ¬ nI 3 = 0 by decide), if_neg (show ¬ nI 3 = 1 by decide), if_pos (show nI 3 = 3 from rfl), if_neg (show ¬ 2 = 0 by decide), if_neg (show ¬ 2 = 1 by decide), if_pos rfl, ch, bd_eq, s3]
    by_cases e3 : 65 ≤ c ∧ c ≤ 68
    · rw [if_pos e3, if_neg one_ne, if_pos e3, s5 e3.1]
      refine ⟨_, rfl, fun h => (nomatch h), fun q' a' k' d' o2 h => ?_⟩
      injection h with h; injection h with h1 h; injection h with h2 h; injection h with h3 h; injection h with h4 h5; subst h1; subst h2; subst h3; subst h4; subst h5
      exact ⟨rfl, by decide, hk, fun z => z, fun _ => by omega, fun z => absurd z (by decide), fun _ => ⟨rfl, MR_far hR (fun _ _ => rfl) (fun _ _ => rfl) (fun _ _ => rfl) (far hm), by decide, p2, fun z => absurd z (by decide), fun z => absurd z (by decide), fun _ => p5 (by decide), c - 65, by omega, hit hm, fun _ _ => rfl⟩⟩
    · rw [if_neg e3, if_pos rfl, if_neg e3]
      exact ⟨_, rfl, fun _ => rfl, fun _ _ _ _ _ h => (nomatch h)⟩
  · obtain ⟨p1, p2, p3, p4, p5, o', p6, p7, p8⟩ := hP (by decide)
    rw [show due 3 = 2 from rfl, if_neg (show ¬ nI 2 = 0 by decide), if_neg (show ¬ nI 2 = 1 by decide), if_neg (show ¬ nI 2 = 3 by decide), if_neg (show ¬ 3 = 0 by decide), if_neg (show ¬ 3 = 1 by decide), if_neg (show ¬ 3 = 2 by decide), ch, bd_eq, s4]
    by_cases e3 : 97 ≤ c ∧ c ≤ 108
    · rw [if_pos e3, if_neg one_ne, if_pos e3, s6 e3.1, bd_eq]
      refine ⟨_, rfl, fun h => (nomatch h), fun q' a' k' d' o2 h => ?_⟩
      injection h with h; injection h with h1 h; injection h with h2 h; injection h with h3 h; injection h with h4 h5; subst h1; subst h2; subst h3; subst h4; subst h5
      have hB : okA (a, k, c - 97, o') := ⟨by show a ≤ 4; omega, hk, by show c - 97 < 12; omega, p6⟩
      refine ⟨rfl, by decide, hk, fun _ => by omega, fun z => z, fun _ => ⟨(a, k, c - 97, o'), ⟨hB, rfl, fun _ => ⟨rfl, rfl⟩, fun z => (p8 rfl z).symm⟩, nI_1 m, ?_⟩, fun z => absurd rfl z⟩
      exact MR_add (MR_far hR (fun _ _ => rfl) (fun _ _ => rfl) (far hm) (fun _ _ => rfl)) hB (p5 (by decide)) p2 (hit hm) p7
    · rw [if_neg e3, if_pos rfl, if_neg e3]
      exact ⟨_, rfl, fun _ => rfl, fun _ _ _ _ _ h => (nomatch h)⟩
