/-! the signs read by both sides, to the end -/
theorem dstep_dot {kd : Nat → Nat} {i : Nat} {D : Dy} {A B : Nat × Nat × Nat × Nat} (hA : A.1 = 4) (hB : B.1 = 4) : dstep kd i D A = dstep kd i D B := by
  unfold dstep
  rw [if_pos hA, if_pos hB]
theorem doX_N {kd : Nat → Nat} {i : Nat} {D : Dy} {B : Nat × Nat × Nat × Nat} {a k d o : Nat} (hi : i < 100) (hD : okD i D) (hB : SA a k d o B) (hk : k < 4) (hd : d < 12) (ho : o < 4) (hkd : ∀ j, kd j ≤ 2) {ba why se sp he hw st ln : Int32} {vw vk vp vb : Nat → Int32} (h : XD D ba why se sp he hw st ln vw vp vb) (hk' : ag 12 vk kd) :
    ∃ r, f_X1_doAct (nI i) ba why se sp he hw (nI a) (nI k) (nI d) (nI o) st ln vw vk vp vb = some r ∧ r.1 = nI (i + 1) ∧ XD (dstep kd i D B) r.2.1 r.2.2.1 r.2.2.2.1 r.2.2.2.2.1 r.2.2.2.2.2.1 r.2.2.2.2.2.2.1 r.2.2.2.2.2.2.2.1 r.2.2.2.2.2.2.2.2.1 r.2.2.2.2.2.2.2.2.2.1 r.2.2.2.2.2.2.2.2.2.2.1 r.2.2.2.2.2.2.2.2.2.2.2 := by
  obtain ⟨h1, h2, h3, h4⟩ := hB
  by_cases e : a = 4
  · subst e
    obtain ⟨r, g1, g2, g3⟩ := doAct_N (A := (4, k, d, o)) hi hD ⟨Nat.le_refl 4, hk, hd, ho⟩ hkd h hk' ho (fun z => absurd (show (4 : Nat) = 3 from z) (by decide))
    rw [dstep_dot (B := B) rfl h2.symm] at g3
    exact ⟨r, g1, g2, g3⟩
  · obtain ⟨e1, e2⟩ := h3 e
    subst h2
    subst e1
    subst e2
    exact doAct_N hi hD h1 hkd h hk' ho h4
abbrev TX : Type := Int32 × Int32 × Int32 × Int32 × Int32 × Int32 × Int32 × Int32 × Int32 × Int32 × Int32 × Int32 × Int32 × Int32 × (Nat → Int32) × (Nat → Int32) × (Nat → Int32)
abbrev TM : Type := Int32 × (Nat → Int32) × Int32 × (Nat → Int32) × (Nat → Int32) × (Nat → Int32)
def JP (kd w p b : Nat → Nat) (j : Nat) (t : TX × TM) : Prop := ∃ (q a k d o m : Nat) (A : Nat → Nat × Nat × Nat × Nat), q ≤ 3 ∧ m ≤ j ∧ k < 4 ∧ d < 12 ∧ o < 4 ∧ (¬ q = 0 → t.1.2.2.2.2.2.2.2.1 = nI a) ∧ t.1.2.2.2.2.2.2.2.2.1 = nI q ∧ t.1.2.2.2.2.2.2.2.2.2.1 = nI o ∧ t.1.2.2.2.2.2.2.2.2.2.2.1 = nI k ∧ t.1.2.2.2.2.2.2.2.2.2.2.2.1 = nI d ∧ t.1.1 = nI m ∧ XD (Gd kd w p b A m) t.1.2.1 t.1.2.2.2.2.2.2.1 t.1.2.2.2.2.1 t.1.2.2.2.2.2.1 t.1.2.2.1 t.1.2.2.2.1 t.1.2.2.2.2.2.2.2.2.2.2.2.2.2.1 t.1.2.2.2.2.2.2.2.2.2.2.2.2.1 t.1.2.2.2.2.2.2.2.2.2.2.2.2.2.2.2.2 t.1.2.2.2.2.2.2.2.2.2.2.2.2.2.2.2.1 t.1.2.2.2.2.2.2.2.2.2.2.2.2.2.2.1 ∧ t.2.1 = nI (due q) ∧ t.2.2.2.1 = nI m ∧ MR m t.2.2.1 t.2.2.2.2.2.1 t.2.2.2.2.1 t.2.2.2.2.2.2 A ∧ (¬ q = 0 → PM q a k o m t.2.2.1 t.2.2.2.2.2.1 t.2.2.2.2.2.2)
abbrev TO1 : Type := Int32 × Int32 × Int32 × Int32 × Int32 × Int32 × Int32 × Int32 × Int32 × (Nat → Int32) × (Nat → Int32) × (Nat → Int32) × (Nat → Int32) × (Nat → Int32) × (Nat → Int32) × Int32 × (Nat → Int32) × (Nat → Int32) × (Nat → Int32) × Int32
abbrev TO : Type := Int32 × Int32 × Int32 × Int32 × Int32 × Int32 × Int32 × Int32 × Int32 × Int32 × Int32 × Int32 × Int32 × Int32 × Int32 × Int32 × (Nat → Int32) × (Nat → Int32) × (Nat → Int32) × (Nat → Int32) × (Nat → Int32) × (Nat → Int32) × Int32 × (Nat → Int32) × (Nat → Int32) × (Nat → Int32) × Int32
def RD (sp wo ot : Int32) : Prop := ∃ k d o, k < 4 ∧ d < 12 ∧ o < 4 ∧ sp = nI k ∧ wo = nI d ∧ ot = nI o
/-- what stays of the shop that was copied -/
def KP (o1 : TO1) (o : TO) : Prop := o.2.2.2.2.2.2.2.2.2.2.2.2.2.2.2.2.2.1 = o1.2.2.2.2.2.2.2.2.2.2.1 ∧ o.2.2.2.2.2.2.2.2.2.2.2.2.2.2.2.2.2.2.1 = o1.2.2.2.2.2.2.2.2.2.2.2.1 ∧ o.2.2.2.2.2.2.2.2.2.2.2.2.2.2.2.2.2.2.2.2.2.1 = o1.2.2.2.2.2.2.2.2.2.2.2.2.2.2.1 ∧ o.2.2.2.2.2.2.2.2.2.2.2.2.2.2.2.2.2.2.2.2.2.2.1 = o1.2.2.2.2.2.2.2.2.2.2.2.2.2.2.2.1 ∧ o.2.2.2.2.2.2.2.2.2.2.2.2.2.2.2.2.2.2.2.2.2.2.2.1 = o1.2.2.2.2.2.2.2.2.2.2.2.2.2.2.2.2.1 ∧ o.2.2.2.2.2.2.2.2.2.2.2.2.2.2.2.2.2.2.2.2.2.2.2.2.1 = o1.2.2.2.2.2.2.2.2.2.2.2.2.2.2.2.2.2.1 ∧ o.2.2.2.2.2.2.2.2.2.2.2.2.2.2.2.2.2.2.2.2.2.2.2.2.2.1 = o1.2.2.2.2.2.2.2.2.2.2.2.2.2.2.2.2.2.2.1 ∧ o.2.2.2.2.2.2.2.2.2.2.2.2.2.2.2.2.2.2.2.2.2.2.2.2.2.2 = o1.2.2.2.2.2.2.2.2.2.2.2.2.2.2.2.2.2.2.2
theorem signs_two {kd w p b : Nat → Nat} (bw : ∀ j, w j ≤ 99) (bp : ∀ j, p j ≤ 999) (bb : ∀ j, b j < 4096) (hk : ∀ j, kd j ≤ 2) {n : Nat} {sg : Nat → Nat} {f f' : Nat → Int32} (hn : n ≤ 60) (hs : ∀ j, 33 ≤ sg j ∧ sg j ≤ 126) (hf : ∀ j, j < n → f j = nI (sg j)) (hf' : ∀ j, j < n → f' j = nI (sg j)) (o1 : TO1) (hk' : ag 12 o1.2.2.2.2.2.2.2.2.2.2.1 kd) (t0 : TX × TM) (h0 : JP kd w p b 0 t0) :
    ∃ r r', wh (s_X1_readAll_8 f (nI n) o1) 5000 (nI 0, t0.1) = some r ∧ wh (s_X5_fault_9 f' (nI n)) 5000 (t0.2.1, nI 0, t0.2.2) = some r' ∧ ((∃ t, JP kd w p b n t ∧ r = .inl (nI n, t.1) ∧ r' = .inl (t.2.1, nI n, t.2.2)) ∨ ∃ j o o', j ≤ 60 ∧ r = .inr o ∧ r' = .inr o' ∧ o.1 = -5 ∧ o.2.1 = nI j ∧ o'.1 = nI j ∧ RD o.2.2.2.2.2.2.2.2.2.2.2.1 o.2.2.2.2.2.2.2.2.2.2.2.2.1 o.2.2.2.2.2.2.2.2.2.2.2.2.2.1) :=
  wh_both (f := s_X1_readAll_8 f (nI n) o1) (g := s_X5_fault_9 f' (nI n)) (τ := TX × TM) (fun j t => (nI j, t.1)) (fun j t => (t.2.1, nI j, t.2.2)) (JP kd w p b) _ n (fun j t hj ht => by
    obtain ⟨q, a, k, d, o, m, A, h1, h2, h3, h4, h5, h6, h7, h8, h9, h10, h11, h12, h13, h14, h15, h16⟩ := ht
    obtain ⟨⟨acts, ba, he, hw, se, sp, why, rac, raw, rot, rsp, rwo, ln, st, vb, vp, vw⟩, du, fa, va, fd, fk, fo⟩ := t
    dsimp only at h6 h7 h8 h9 h10 h11 h12 h13 h14 h15 h16 ⊢
    subst h7 h8 h9 h10 h11 h13 h14
    have hc : sg j < 127 := by have := (hs j).2; omega
    obtain ⟨k1, k2⟩ := take_N (q := q) (a := a) (k := k) (d := d) (o := o) (c := sg j) h1 hc h6
    obtain ⟨r, g1, g2, g3⟩ := readOn_N (q := q) (a := a) (k := k) (d := d) (o := o) (c := sg j) (m := m) h1 hc (by omega) h3 h15 h16
    have hD : okD m (Gd kd w p b A m) := Gd_ok bw bp bb m (fun i hi => (h15 i hi).1)
    unfold s_X1_readAll_8 s_X5_fault_9
    dsimp only
    rw [if_neg (nI_ge hj (by omega)), if_neg (nI_ge hj (by omega)), if_neg (show ¬ (60 : Int32) ≤ nI j from nI_ge (b := 60) (by omega) (by decide)), chk_nI _ (by omega) (by decide), chk_nI _ (by omega) (by decide), nI_clamp (by omega), hf j hj, hf' j hj, bd_eq, ob_some g1]
    cases hx : nx q a k d o (sg j) with
    | none =>
      obtain ⟨x, y, z⟩ := k2 hx
      have z2 := g2 hx
      rw [z, if_pos (show (0 : Int32) = 0 from rfl), if_neg (by rw [z2]; decide)]
      exact Or.inr ⟨_, _, rfl, rfl, Or.inr ⟨j, _, _, by omega, rfl, rfl, rfl, rfl, rfl, k, d, o, h3, h4, h5, rfl, rfl, rfl⟩⟩
    | some v =>
      obtain ⟨q', a', k', d', o'⟩ := v
      have z := k1 q' a' k' d' o' hx
      obtain ⟨i1, i2, i3, i4, i5, i6, i7⟩ := g3 q' a' k' d' o' hx
      have hq0 : (0 : Int32) ≤ r.1 := by
        rw [i1]
        exact nI_le (a := 0) (Nat.zero_le _) (by unfold due; split; · omega
                                                 · split <;> omega)
      rw [z, if_neg (show ¬ (1 : Int32) = 0 by decide), if_pos hq0, bd_eq, nI_1]
      unfold f_X0_isBetweenActs
      dsimp only
      by_cases e : q' = 0
      · subst e
        rw [if_pos (show nI 0 = 0 from rfl), if_neg one_ne]
        obtain ⟨B, b1, b2, b3⟩ := i6 rfl
        obtain ⟨w1, c1, c2, c3⟩ := doX_N (i := m) (by omega) hD b1 i3 (i4 h4) (i5 h5) hk h12 hk'
        rw [ob_some c1]
        refine Or.inl ⟨((w1.1, w1.2.1, w1.2.2.2.2.2.1, w1.2.2.2.2.2.2.1, w1.2.2.2.1, w1.2.2.2.2.1, w1.2.2.1, nI a', nI 0, nI o', nI k', nI d', w1.2.2.2.2.2.2.2.2.1, w1.2.2.2.2.2.2.2.1, w1.2.2.2.2.2.2.2.2.2.2.2, w1.2.2.2.2.2.2.2.2.2.2.1, w1.2.2.2.2.2.2.2.2.2.1), r.1, r.2.1, r.2.2.2.2.2, r.2.2.2.1, r.2.2.1, r.2.2.2.2.1), rfl, rfl, 0, a', k', d', o', m + 1, setA A m B, by decide, by omega, i3, i4 h4, i5 h5, fun zz => absurd rfl zz, rfl, rfl, rfl, rfl, c2, ?_, i1, b2, b3, fun zz => absurd rfl zz⟩
        have eG : Gd kd w p b (setA A m B) (m + 1) = dstep kd m (Gd kd w p b A m) B := by
          show dstep kd m (Gd kd w p b (setA A m B) m) (setA A m B m) = _
          rw [setA_self, Gd_cong m (B := A) (fun i hi => setA_ne (by omega))]
        rw [eG]
        exact c3
      · rw [if_neg (neL (L := 0) (b := 0) rfl e (by omega) (by decide)), if_pos (show (0 : Int32) = 0 from rfl)]
        obtain ⟨b1, b2, b3⟩ := i7 e
        exact Or.inl ⟨((nI m, ba, he, hw, se, sp, why, nI a', nI q', nI o', nI k', nI d', ln, st, vb, vp, vw), r.1, r.2.1, r.2.2.2.2.2, r.2.2.2.1, r.2.2.1, r.2.2.2.2.1), rfl, rfl, q', a', k', d', o', m, A, i2, by omega, i3, i4 h4, i5 h5, fun _ => rfl, rfl, rfl, rfl, rfl, rfl, h12, i1, b1, b2, fun _ => b3⟩) (fun t ht => ⟨.inl (nI n, t.1), .inl (t.2.1, nI n, t.2.2), by
    unfold s_X1_readAll_8
    dsimp only
    rw [if_pos (nI_le (Nat.le_refl n) (by omega))], by
    unfold s_X5_fault_9
    dsimp only
    rw [if_pos (nI_le (Nat.le_refl n) (by omega))], Or.inl ⟨t, ht, rfl, rfl⟩⟩) (fuel := 5000) (fuel' := 5000) (j0 := 0) t0 (by omega) (by omega) (by omega) h0
