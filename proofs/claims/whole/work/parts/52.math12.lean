/-! days, act by act: why, which act, sentences, spoken, stage, open many, heaviest (and its weight), weights, purses, belongings -/
theorem wh_both {σ ρ σ' ρ' τ : Type} {f : σ → Option (σ ⊕ ρ)} {g : σ' → Option (σ' ⊕ ρ')} (emb : Nat → τ → σ) (emb' : Nat → τ → σ') (P : Nat → τ → Prop) (Q : ρ → ρ' → Prop) (N : Nat)
    (hs : ∀ j t, j < N → P j t → (∃ t', f (emb j t) = some (.inl (emb (j + 1) t')) ∧ g (emb' j t) = some (.inl (emb' (j + 1) t')) ∧ P (j + 1) t') ∨ ∃ r r', f (emb j t) = some (.inr r) ∧ g (emb' j t) = some (.inr r') ∧ Q r r')
    (hx : ∀ t, P N t → ∃ r r', f (emb N t) = some (.inr r) ∧ g (emb' N t) = some (.inr r') ∧ Q r r') {fuel fuel' j0 : Nat} (t0 : τ) (hj : j0 ≤ N) (hf : N < fuel + j0) (hg : N < fuel' + j0) (h0 : P j0 t0) : ∃ r r', wh f fuel (emb j0 t0) = some r ∧ wh g fuel' (emb' j0 t0) = some r' ∧ Q r r' := by
  have key : ∀ k j t fuel fuel', j + k = N → k < fuel → k < fuel' → P j t → ∃ r r', wh f fuel (emb j t) = some r ∧ wh g fuel' (emb' j t) = some r' ∧ Q r r' := by
    intro k
    induction k with
    | zero =>
      intro j t fuel fuel' hk hf hg h
      obtain ⟨a, rfl⟩ : ∃ a, fuel = a + 1 := ⟨fuel - 1, by omega⟩
      obtain ⟨b, rfl⟩ : ∃ b, fuel' = b + 1 := ⟨fuel' - 1, by omega⟩
      have : j = N := by omega
      subst this
      obtain ⟨r, r', h1, h2, h3⟩ := hx t h
      exact ⟨r, r', by show ob (f _) _ = _; rw [h1]; rfl, by show ob (g _) _ = _; rw [h2]; rfl, h3⟩
    | succ k ih =>
      intro j t fuel fuel' hk hf hg h
      obtain ⟨a, rfl⟩ : ∃ a, fuel = a + 1 := ⟨fuel - 1, by omega⟩
      obtain ⟨b, rfl⟩ : ∃ b, fuel' = b + 1 := ⟨fuel' - 1, by omega⟩
      rcases hs j t (by omega) h with ⟨t', h1, h2, h3⟩ | ⟨r, r', h1, h2, h3⟩
      · obtain ⟨r, r', g1, g2, g3⟩ := ih (j + 1) t' a b (by omega) (by omega) (by omega) h3
        exact ⟨r, r', by show ob (f _) _ = _; rw [h1]; exact g1, by show ob (g _) _ = _; rw [h2]; exact g2, g3⟩
      · exact ⟨r, r', by show ob (f _) _ = _; rw [h1]; rfl, by show ob (g _) _ = _; rw [h2]; rfl, h3⟩
  exact key (N - j0) j0 t0 fuel fuel' (by omega) (by omega) (by omega) h0
abbrev Dy : Type := Nat × Nat × Nat × Nat × Nat × Nat × Option (Nat × Nat) × (Nat → Nat) × (Nat → Nat) × (Nat → Nat)
def stg (s k : Nat) : Nat := if s = 0 then (if k = 2 then 0 else if k = 0 then 1 else 5) else if s = 1 then (if k = 1 then 2 else 5) else if s = 2 then (if k = 2 then 3 else if k = 0 then 4 else 5) else if s = 3 then (if k = 2 then 3 else if k = 0 then 4 else 5) else 5
theorem stg_le (s k : Nat) : stg s k ≤ 5 := by
  unfold stg
  repeat' split
  all_goals omega
theorem stg_all : ∀ s, s < 6 → ∀ k, k < 3 → f_X2_stageBehind (nI s) (nI k) = nI (stg s k) ∧ f_X5_placeThen (nI s) (nI k) = nI (stg s k) := by decide +kernel
def heav (h : Option (Nat × Nat)) (d x : Nat) : Option (Nat × Nat) := match h with
  | none => some (d, x)
  | some (e, y) => if x ≤ y then some (e, y) else some (d, x)
def hX (h : Option (Nat × Nat)) : Int32 × Int32 := match h with
  | none => (-6, -1)
  | some (d, x) => (nI d, nI x)
def hM (h : Option (Nat × Nat)) : Int32 × Int32 := match h with
  | none => (-6, 0)
  | some (d, x) => (nI d, nI x)
def hok (h : Option (Nat × Nat)) : Prop := ∀ d x, h = some (d, x) → d < 12 ∧ x ≤ 99
def dstep (kd : Nat → Nat) (i : Nat) (D : Dy) (A : Nat × Nat × Nat × Nat) : Dy :=
  if D.1 = 0 then
    (if A.1 = 4 then
      (if D.2.2.2.2.1 = 2 ∨ D.2.2.2.2.1 = 4 then (0, D.2.1, D.2.2.1 + 1, D.2.2.2.1, 0, 0, D.2.2.2.2.2.2.1, D.2.2.2.2.2.2.2.1, D.2.2.2.2.2.2.2.2.1, D.2.2.2.2.2.2.2.2.2)
       else (5, i, D.2.2.1, D.2.2.2.1, D.2.2.2.2.1, D.2.2.2.2.2.1, D.2.2.2.2.2.2.1, D.2.2.2.2.2.2.2.1, D.2.2.2.2.2.2.2.2.1, D.2.2.2.2.2.2.2.2.2))
     else if whyA D.2.2.2.2.2.2.2.1 D.2.2.2.2.2.2.2.2.1 D.2.2.2.2.2.2.2.2.2 A.1 A.2.1 A.2.2.1 A.2.2.2 = 0 then
      (0, D.2.1, D.2.2.1, (if A.1 = 2 then D.2.2.2.1 + 1 else D.2.2.2.1), (if A.1 = 2 then stg D.2.2.2.2.1 (kd A.2.2.1) else D.2.2.2.2.1), (if A.1 = 2 then D.2.2.2.2.2.1 + 1 else D.2.2.2.2.2.1), (if A.1 = 2 then heav D.2.2.2.2.2.2.1 A.2.2.1 (D.2.2.2.2.2.2.2.1 A.2.2.1) else D.2.2.2.2.2.2.1), wA D.2.2.2.2.2.2.2.1 A.1 A.2.2.1, pA D.2.2.2.2.2.2.2.1 D.2.2.2.2.2.2.2.2.1 A.1 A.2.1 A.2.2.1, bA D.2.2.2.2.2.2.2.2.2 A.1 A.2.1 A.2.2.1 A.2.2.2)
     else (whyA D.2.2.2.2.2.2.2.1 D.2.2.2.2.2.2.2.2.1 D.2.2.2.2.2.2.2.2.2 A.1 A.2.1 A.2.2.1 A.2.2.2, i, D.2.2.1, D.2.2.2.1, D.2.2.2.2.1, D.2.2.2.2.2.1, D.2.2.2.2.2.2.1, D.2.2.2.2.2.2.2.1, D.2.2.2.2.2.2.2.2.1, D.2.2.2.2.2.2.2.2.2))
  else D
def okA (A : Nat × Nat × Nat × Nat) : Prop := A.1 ≤ 4 ∧ A.2.1 < 4 ∧ A.2.2.1 < 12 ∧ A.2.2.2 < 4
def okD (i : Nat) (D : Dy) : Prop := D.1 ≤ 5 ∧ D.2.1 ≤ i ∧ D.2.2.1 ≤ i ∧ D.2.2.2.1 ≤ i ∧ D.2.2.2.2.1 ≤ 5 ∧ D.2.2.2.2.2.1 ≤ i ∧ hok D.2.2.2.2.2.2.1 ∧ (∀ j, D.2.2.2.2.2.2.2.1 j ≤ 99) ∧ (∀ j, D.2.2.2.2.2.2.2.2.1 j ≤ 999) ∧ ∀ j, D.2.2.2.2.2.2.2.2.2 j < 4096
theorem heav_ok {h : Option (Nat × Nat)} {d x : Nat} (hh : hok h) (hd : d < 12) (hx : x ≤ 99) : hok (heav h d x) := by
  unfold heav
  split
  · intro e y q
    injection q with q
    injection q with q1 q2
    subst q1
    subst q2
    exact ⟨hd, hx⟩
  · split
    · exact hh
    · intro e y q
      injection q with q
      injection q with q1 q2
      subst q1
      subst q2
      exact ⟨hd, hx⟩
theorem dstep_ok {kd : Nat → Nat} {i : Nat} {D : Dy} {A : Nat × Nat × Nat × Nat} (h : okD i D) (hA : okA A) : okD (i + 1) (dstep kd i D A) := by
  obtain ⟨a1, a2, a3, a4, a5, a6, a7, a8, a9, a10⟩ := h
  obtain ⟨b1, b2, b3, b4⟩ := hA
  have hw := whyA_le D.2.2.2.2.2.2.2.1 D.2.2.2.2.2.2.2.2.1 D.2.2.2.2.2.2.2.2.2 A.1 A.2.1 A.2.2.1 A.2.2.2
  unfold dstep
  split
  · split
    · split
      · exact ⟨Nat.zero_le 5, by dsimp only; omega, by dsimp only; omega, by dsimp only; omega, Nat.zero_le 5, Nat.zero_le _, a7, a8, a9, a10⟩
      · exact ⟨Nat.le_refl 5, by dsimp only; omega, by dsimp only; omega, by dsimp only; omega, a5, by dsimp only; omega, a7, a8, a9, a10⟩
    · split
      · rename_i hy
        refine ⟨Nat.zero_le 5, by dsimp only; omega, by dsimp only; omega, ?_, ?_, ?_, ?_, wA_le a8, pA_le a9 hy, bA_lt a10 b3⟩
        · dsimp only; split <;> omega
        · dsimp only
          split
          · exact stg_le _ _
          · exact a5
        · dsimp only; split <;> omega
        · dsimp only
          split
          · exact heav_ok a7 b3 (a8 _)
          · exact a7
      · exact ⟨by dsimp only; omega, by dsimp only; omega, by dsimp only; omega, by dsimp only; omega, a5, by dsimp only; omega, a7, a8, a9, a10⟩
  · exact ⟨a1, by omega, by omega, by omega, a5, by omega, a7, a8, a9, a10⟩
def Gd (kd w p b : Nat → Nat) (A : Nat → Nat × Nat × Nat × Nat) : Nat → Dy
  | 0 => (0, 0, 0, 0, 0, 0, none, w, p, b)
  | i + 1 => dstep kd i (Gd kd w p b A i) (A i)
theorem Gd_cong {kd w p b : Nat → Nat} {A B : Nat → Nat × Nat × Nat × Nat} : ∀ n, (∀ i, i < n → A i = B i) → Gd kd w p b A n = Gd kd w p b B n
  | 0, _ => rfl
  | n + 1, h => by
    show dstep kd n (Gd kd w p b A n) (A n) = dstep kd n (Gd kd w p b B n) (B n)
    rw [Gd_cong n (fun i hi => h i (by omega)), h n (by omega)]
theorem Gd_ok {kd w p b : Nat → Nat} {A : Nat → Nat × Nat × Nat × Nat} (hw : ∀ j, w j ≤ 99) (hp : ∀ j, p j ≤ 999) (hb : ∀ j, b j < 4096) : ∀ n, (∀ i, i < n → okA (A i)) → okD n (Gd kd w p b A n)
  | 0, _ => ⟨Nat.zero_le 5, Nat.le_refl 0, Nat.le_refl 0, Nat.le_refl 0, Nat.zero_le 5, Nat.le_refl 0, (fun _ _ q => nomatch q), hw, hp, hb⟩
  | n + 1, h => dstep_ok (Gd_ok hw hp hb n (fun i hi => h i (by omega))) (h n (by omega))
theorem Gd_stay {kd w p b : Nat → Nat} {A : Nat → Nat × Nat × Nat × Nat} {j : Nat} (h : ¬ (Gd kd w p b A j).1 = 0) : ∀ n, Gd kd w p b A (j + n) = Gd kd w p b A j
  | 0 => rfl
  | n + 1 => by
    show dstep kd (j + n) (Gd kd w p b A (j + n)) (A (j + n)) = _
    rw [Gd_stay h n]
    exact if_neg h
theorem whyA_o {w p b : Nat → Nat} {a k d : Nat} (o o' : Nat) (ha : a ≤ 3) (h : a = 3 → o = o') : whyA w p b a k d o = whyA w p b a k d o' := by
  rcases (show a = 0 ∨ a = 1 ∨ a = 2 ∨ a = 3 by omega) with rfl | rfl | rfl | rfl
  · rfl
  · rfl
  · rfl
  · rw [h rfl]
theorem bA_o {b : Nat → Nat} {a k d : Nat} (o o' : Nat) (ha : a ≤ 3) (h : a = 3 → o = o') : bA b a k d o = bA b a k d o' := by
  rcases (show a = 0 ∨ a = 1 ∨ a = 2 ∨ a = 3 by omega) with rfl | rfl | rfl | rfl
  · rfl
  · rfl
  · rfl
  · rw [h rfl]
/-- the days of the program's side -/
def XD (D : Dy) (ba why se sp he hw st ln : Int32) (vw vp vb : Nat → Int32) : Prop := why = nI D.1 ∧ (¬ D.1 = 0 → ba = nI D.2.1) ∧ se = nI D.2.2.1 ∧ sp = nI D.2.2.2.1 ∧ st = nI D.2.2.2.2.1 ∧ ln = nI D.2.2.2.2.2.1 ∧ he = (hX D.2.2.2.2.2.2.1).1 ∧ hw = (hX D.2.2.2.2.2.2.1).2 ∧ ag 12 vw D.2.2.2.2.2.2.2.1 ∧ ag 4 vp D.2.2.2.2.2.2.2.2.1 ∧ ag 4 vb D.2.2.2.2.2.2.2.2.2
/-- and of the other's -/
def MD (D : Dy) (bad bw se sp he hw pl om : Int32) (vw vp vb : Nat → Int32) : Prop := bad = (if D.1 = 0 then -6 else nI D.2.1) ∧ bw = (if D.1 = 0 then -6 else nI D.1) ∧ se = nI D.2.2.1 ∧ sp = nI D.2.2.2.1 ∧ pl = nI D.2.2.2.2.1 ∧ om = nI D.2.2.2.2.2.1 ∧ he = (hM D.2.2.2.2.2.2.1).1 ∧ hw = (hM D.2.2.2.2.2.2.1).2 ∧ ag 12 vw D.2.2.2.2.2.2.2.1 ∧ ag 4 vp D.2.2.2.2.2.2.2.2.1 ∧ ag 4 vb D.2.2.2.2.2.2.2.2.2
theorem note_X (h : Option (Nat × Nat)) (hh : hok h) (sp : Int32) {d x : Nat} (hd : d < 12) (hx : x ≤ 99) : f_X1_noteSpoken sp (hX h).1 (hX h).2 (nI d) (nI x) = (sp + 1, (hX (heav h d x)).1, (hX (heav h d x)).2) := by
  unfold f_X1_noteSpoken
  cases h with
  | none =>
    have : ¬ nI x ≤ -1 := by
      rw [fa_le, nI_toInt (by omega)]
      show ¬ (x : Int) ≤ -1
      omega
    exact if_neg this
  | some q =>
    obtain ⟨e, y⟩ := q
    have hy := (hh e y rfl).2
    show (if nI x ≤ nI y then _ else _) = (sp + 1, (hX (if x ≤ y then some (e, y) else some (d, x))).1, (hX (if x ≤ y then some (e, y) else some (d, x))).2)
    by_cases q : x ≤ y
    · rw [if_pos (nI_le q (by omega)), if_pos q]
    · rw [if_neg (nI_ge (by omega) (by omega)), if_neg q]; rfl
theorem note_M (h : Option (Nat × Nat)) (hh : hok h) {d x : Nat} (hd : d < 12) (hx : x ≤ 99) : (if (hM h).1 < 0 then nI d else if nI x ≤ (hM h).2 then (hM h).1 else nI d) = (hM (heav h d x)).1 ∧ (if (hM h).1 < 0 then nI x else if nI x ≤ (hM h).2 then (hM h).2 else nI x) = (hM (heav h d x)).2 := by
  cases h with
  | none => exact ⟨if_pos (by decide), if_pos (by decide)⟩
  | some q =>
    obtain ⟨e, y⟩ := q
    have hy := (hh e y rfl).2
    have he := (hh e y rfl).1
    show (if nI e < 0 then _ else if nI x ≤ nI y then _ else _) = (hM (if x ≤ y then some (e, y) else some (d, x))).1 ∧ (if nI e < 0 then _ else if nI x ≤ nI y then _ else _) = (hM (if x ≤ y then some (e, y) else some (d, x))).2
    rw [if_neg (nI_nneg (by omega)), if_neg (nI_nneg (by omega))]
    by_cases q : x ≤ y
    · rw [if_pos (nI_le q (by omega)), if_pos (nI_le q (by omega)), if_pos q]; exact ⟨rfl, rfl⟩
    · rw [if_neg (nI_ge (by omega) (by omega)), if_neg (nI_ge (by omega) (by omega)), if_neg q]; exact ⟨rfl, rfl⟩
theorem isSen_X {st : Nat} (h : st ≤ 5) : f_X2_isSentence (nI st) = if st = 2 ∨ st = 4 then 1 else 0 := by
  rcases (show st = 0 ∨ st = 1 ∨ st = 2 ∨ st = 3 ∨ st = 4 ∨ st = 5 by omega) with rfl | rfl | rfl | rfl | rfl | rfl <;> decide
theorem doAct_N {kd : Nat → Nat} {i : Nat} {D : Dy} {A : Nat × Nat × Nat × Nat} (hi : i < 100) (hD : okD i D) (hA : okA A) (hk : ∀ j, kd j ≤ 2) {ba why se sp he hw st ln : Int32} {vw vk vp vb : Nat → Int32} (h : XD D ba why se sp he hw st ln vw vp vb) (hkd : ag 12 vk kd) {o : Nat} (ho : o < 4) (hoo : A.1 = 3 → o = A.2.2.2) :
    ∃ r, f_X1_doAct (nI i) ba why se sp he hw (nI A.1) (nI A.2.1) (nI A.2.2.1) (nI o) st ln vw vk vp vb = some r ∧ r.1 = nI (i + 1) ∧ XD (dstep kd i D A) r.2.1 r.2.2.1 r.2.2.2.1 r.2.2.2.2.1 r.2.2.2.2.2.1 r.2.2.2.2.2.2.1 r.2.2.2.2.2.2.2.1 r.2.2.2.2.2.2.2.2.1 r.2.2.2.2.2.2.2.2.2.1 r.2.2.2.2.2.2.2.2.2.2.1 r.2.2.2.2.2.2.2.2.2.2.2 := by
  have h0 := h
  obtain ⟨rfl, h2, rfl, rfl, rfl, rfl, rfl, rfl, h9, h10, h11⟩ := h
  obtain ⟨a1, a2, a3, a4, a5, a6, a7, a8, a9, a10⟩ := hD
  obtain ⟨b1, b2, b3, b4⟩ := hA
  unfold f_X1_doAct
  simp only [bd_eq]
  by_cases q : D.1 = 0
  · rw [if_pos (show nI D.1 = 0 by rw [q]; rfl)]
    by_cases e4 : A.1 = 4
    · rw [if_pos (show nI A.1 = 4 by rw [e4]; rfl)]
      unfold f_X1_endSentence
      rw [bd_eq, isSen_X a5]
      by_cases e : D.2.2.2.2.1 = 2 ∨ D.2.2.2.2.1 = 4
      · have ed : dstep kd i D A = (0, D.2.1, D.2.2.1 + 1, D.2.2.2.1, 0, 0, D.2.2.2.2.2.2.1, D.2.2.2.2.2.2.2.1, D.2.2.2.2.2.2.2.2.1, D.2.2.2.2.2.2.2.2.2) := by
          unfold dstep
          rw [if_pos q, if_pos e4, if_pos e]
        rw [if_pos e, if_neg one_ne, ed]
        exact ⟨_, if_pos rfl, nI_1 _, rfl, fun z => absurd rfl z, nI_1 _, rfl, rfl, rfl, rfl, rfl, h9, h10, h11⟩
      · have ed : dstep kd i D A = (5, i, D.2.2.1, D.2.2.2.1, D.2.2.2.2.1, D.2.2.2.2.2.1, D.2.2.2.2.2.2.1, D.2.2.2.2.2.2.2.1, D.2.2.2.2.2.2.2.2.1, D.2.2.2.2.2.2.2.2.2) := by
          unfold dstep
          rw [if_pos q, if_pos e4, if_neg e]
        rw [if_neg e, if_pos rfl, ed]
        exact ⟨_, if_neg (show ¬ (5 : Int32) = 0 by decide), nI_1 _, rfl, fun _ => rfl, rfl, rfl, rfl, rfl, rfl, rfl, h9, h10, h11⟩
    · rw [if_neg (neL (L := 4) (b := 4) rfl e4 (by omega) (by decide))]
      obtain ⟨w', p', b', g1, g2, g3⟩ := perform_N h9 h10 h11 a8 a9 a10 (a := A.1) (k := A.2.1) (d := A.2.2.1) (o := o) (by omega) b2 b3 ho
      have eo := whyA_o (w := D.2.2.2.2.2.2.2.1) (p := D.2.2.2.2.2.2.2.2.1) (b := D.2.2.2.2.2.2.2.2.2) (k := A.2.1) (d := A.2.2.1) o A.2.2.2 (show A.1 ≤ 3 by omega) hoo
      have eb := bA_o (b := D.2.2.2.2.2.2.2.2.2) (k := A.2.1) (d := A.2.2.1) o A.2.2.2 (show A.1 ≤ 3 by omega) hoo
      rw [eo] at g1 g2 g3
      rw [eb] at g2
      have wl := whyA_le D.2.2.2.2.2.2.2.1 D.2.2.2.2.2.2.2.2.1 D.2.2.2.2.2.2.2.2.2 A.1 A.2.1 A.2.2.1 A.2.2.2
      unfold f_X1_doWordAct
      rw [bd_eq, isWord_1 b3, if_neg one_ne, chk_nI _ b3 (by decide), ob_some g1]
      dsimp only
      by_cases hy : whyA D.2.2.2.2.2.2.2.1 D.2.2.2.2.2.2.2.2.1 D.2.2.2.2.2.2.2.2.2 A.1 A.2.1 A.2.2.1 A.2.2.2 = 0
      · obtain ⟨z1, z2, z3⟩ := g2 hy
        rw [if_pos (show nI _ = 0 by rw [hy]; rfl)]
        have ed : dstep kd i D A = (0, D.2.1, D.2.2.1, (if A.1 = 2 then D.2.2.2.1 + 1 else D.2.2.2.1), (if A.1 = 2 then stg D.2.2.2.2.1 (kd A.2.2.1) else D.2.2.2.2.1), (if A.1 = 2 then D.2.2.2.2.2.1 + 1 else D.2.2.2.2.2.1), (if A.1 = 2 then heav D.2.2.2.2.2.2.1 A.2.2.1 (D.2.2.2.2.2.2.2.1 A.2.2.1) else D.2.2.2.2.2.2.1), wA D.2.2.2.2.2.2.2.1 A.1 A.2.2.1, pA D.2.2.2.2.2.2.2.1 D.2.2.2.2.2.2.2.2.1 A.1 A.2.1 A.2.2.1, bA D.2.2.2.2.2.2.2.2.2 A.1 A.2.1 A.2.2.1 A.2.2.2) := by
          unfold dstep
          rw [if_pos q, if_neg e4, if_pos hy]
        rw [ed]
        by_cases e2 : A.1 = 2
        · rw [if_pos (show nI A.1 = 2 by rw [e2]; rfl), bd_eq, bd_eq, h9.at b3 (by decide), hkd.at b3 (by decide), note_X _ a7 _ b3 (a8 _)]
          unfold f_X2_add
          rw [bd_eq, (stg_all _ (by omega) _ (by have := hk A.2.2.1; omega)).1, ob_some rfl, hy, if_pos e2, if_pos e2, if_pos e2, if_pos e2]
          exact ⟨_, if_pos rfl, nI_1 _, rfl, fun z => absurd rfl z, rfl, nI_1 _, rfl, nI_1 _, rfl, rfl, z1, z2, z3⟩
        · rw [if_neg (neL (L := 2) (b := 2) rfl e2 (by omega) (by decide)), ob_some rfl, hy, if_neg e2, if_neg e2, if_neg e2, if_neg e2]
          exact ⟨_, if_pos rfl, nI_1 _, rfl, fun z => absurd rfl z, rfl, rfl, rfl, rfl, rfl, rfl, z1, z2, z3⟩
      · obtain ⟨z1, z2, z3⟩ := g3 hy
        have ny : ¬ nI (whyA D.2.2.2.2.2.2.2.1 D.2.2.2.2.2.2.2.2.1 D.2.2.2.2.2.2.2.2.2 A.1 A.2.1 A.2.2.1 A.2.2.2) = 0 := neL (L := 0) (b := 0) rfl hy (by omega) (by decide)
        have ed : dstep kd i D A = (whyA D.2.2.2.2.2.2.2.1 D.2.2.2.2.2.2.2.2.1 D.2.2.2.2.2.2.2.2.2 A.1 A.2.1 A.2.2.1 A.2.2.2, i, D.2.2.1, D.2.2.2.1, D.2.2.2.2.1, D.2.2.2.2.2.1, D.2.2.2.2.2.2.1, D.2.2.2.2.2.2.2.1, D.2.2.2.2.2.2.2.2.1, D.2.2.2.2.2.2.2.2.2) := by
          unfold dstep
          rw [if_pos q, if_neg e4, if_neg hy]
        rw [if_neg ny, ob_some rfl, if_neg ny, ed, z1, z2, z3]
        exact ⟨_, rfl, nI_1 _, rfl, fun _ => rfl, rfl, rfl, rfl, rfl, rfl, rfl, h9, h10, h11⟩
  · have ed : dstep kd i D A = D := by
      unfold dstep
      rw [if_neg q]
    rw [if_neg (neL (L := 0) (b := 0) rfl q (by omega) (by decide)), ed]
    exact ⟨_, rfl, nI_1 _, h0⟩
