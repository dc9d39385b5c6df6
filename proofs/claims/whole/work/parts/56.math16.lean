/-! the days, from the pad: both sides -/
def SDy (S : Nat → Nat → Nat) (D : Dy) : Nat → Nat → Nat := setS (setS (setS S 0 D.2.2.2.2.2.2.2.1) 3 D.2.2.2.2.2.2.2.2.1) 4 D.2.2.2.2.2.2.2.2.2
theorem SDy_ok {S : Nat → Nat → Nat} {D : Dy} {i : Nat} (ok : okS S) (hD : okD i D) : okS (SDy S D) := by
  obtain ⟨k0, k1, k2, k3, k4, k5, k6, k7, k8, k9, k10⟩ := ok
  obtain ⟨a1, a2, a3, a4, a5, a6, a7, a8, a9, a10⟩ := hD
  exact ⟨a8, k1, k2, a9, a10, k5, k6, k7, k8, k9, k10⟩
theorem fault_two {S : Nat → Nat → Nat} (ok : okS S) {vw vk vr vp vb vi vl vg vo : Nat → Int32} {vwc vsc : Int32} (hX : XA S vw vk vr vp vb vi vwc vl vg vo vsc) {n : Nat} {sg : Nat → Nat} {sc pm : Int32} {fg pad : Nat → Int32} (hP : PA n sg sc fg) (hQ : PA n sg pm pad) (fp ba ac : Int32) {rs rw ro : Int32} (hr : RD rs rw ro) (wd kd rd pd bd' id ld gd od : Nat → Int32) (va vho vhi vhm : Nat → Int32) :
    ∃ o o', f_X1_readAll fp ba ac rs rw ro wd kd rd pd bd' id ld gd od fg vw vk vr vp vb vi vwc vl vg vo vsc sc = some o ∧ f_X5_fault pad pm va vho vhi vhm = some o' ∧ RD o.2.2.2.2.2.2.2.2.2.2.2.1 o.2.2.2.2.2.2.2.2.2.2.2.2.1 o.2.2.2.2.2.2.2.2.2.2.2.2.2.1 ∧ ((o.1 = -5 ∧ ∃ j, j ≤ 60 ∧ o.2.1 = nI j ∧ o'.1 = nI j) ∨ (o'.1 = -6 ∧ ∃ m A, m ≤ 60 ∧ o.2.2.1 = nI m ∧ o'.2.2.2.2.2 = nI m ∧ MR m o'.2.1 o'.2.2.1 o'.2.2.2.1 o'.2.2.2.2.1 A ∧ okD m (Gd (S 1) (S 0) (S 3) (S 4) A m) ∧ o.1 = (if (Gd (S 1) (S 0) (S 3) (S 4) A m).1 = 0 then 0 else -3) ∧ XD (Gd (S 1) (S 0) (S 3) (S 4) A m) o.2.2.2.1 o.2.2.2.2.1 o.2.2.2.2.2.1 o.2.2.2.2.2.2.1 o.2.2.2.2.2.2.2.1 o.2.2.2.2.2.2.2.2.1 o.2.2.2.2.2.2.2.2.2.2.2.2.2.2.1 o.2.2.2.2.2.2.2.2.2.2.2.2.2.2.2.1 o.2.2.2.2.2.2.2.2.2.2.2.2.2.2.2.2.1 o.2.2.2.2.2.2.2.2.2.2.2.2.2.2.2.2.2.2.2.1 o.2.2.2.2.2.2.2.2.2.2.2.2.2.2.2.2.2.2.2.2.1 ∧ XA (SDy S (Gd (S 1) (S 0) (S 3) (S 4) A m)) o.2.2.2.2.2.2.2.2.2.2.2.2.2.2.2.2.1 o.2.2.2.2.2.2.2.2.2.2.2.2.2.2.2.2.2.1 o.2.2.2.2.2.2.2.2.2.2.2.2.2.2.2.2.2.2.1 o.2.2.2.2.2.2.2.2.2.2.2.2.2.2.2.2.2.2.2.1 o.2.2.2.2.2.2.2.2.2.2.2.2.2.2.2.2.2.2.2.2.1 o.2.2.2.2.2.2.2.2.2.2.2.2.2.2.2.2.2.2.2.2.2.1 o.2.2.2.2.2.2.2.2.2.2.2.2.2.2.2.2.2.2.2.2.2.2.1 o.2.2.2.2.2.2.2.2.2.2.2.2.2.2.2.2.2.2.2.2.2.2.2.1 o.2.2.2.2.2.2.2.2.2.2.2.2.2.2.2.2.2.2.2.2.2.2.2.2.1 o.2.2.2.2.2.2.2.2.2.2.2.2.2.2.2.2.2.2.2.2.2.2.2.2.2.1 o.2.2.2.2.2.2.2.2.2.2.2.2.2.2.2.2.2.2.2.2.2.2.2.2.2.2)) := by
  obtain ⟨x0, x1, x2, x3, x4, x5, x6, x7, x8, x9, x10⟩ := hX
  obtain ⟨k0, k1, k2, k3, k4, k5, k6, k7, k8, k9, k10⟩ := ok
  obtain ⟨rfl, hn, hs, hf⟩ := hP
  obtain ⟨rfl, -, -, hf'⟩ := hQ
  obtain ⟨uk, ud, uo, hk, hd, ho, rfl, rfl, rfl⟩ := hr
  obtain ⟨w, k, r, p, b, i, l, g, o, c1, c2, c3, c4, c5, c6, c7, c8, c9, c10⟩ := copyFrom_N wd kd rd pd bd' id ld gd od vw vk vr vp vb vi vwc vl vg vo vsc
  have hb : f_X1_begin wd kd rd pd bd' id ld gd od vw vk vr vp vb vi vwc vl vg vo vsc = some (0, 0, 0, 0, -6, -1, 0, 0, 0, w, k, r, p, b, i, vwc, l, g, o, vsc) := by
    unfold f_X1_begin
    rw [ob_some c1]
    rfl
  have J0 : JP (S 1) (S 0) (S 3) (S 4) 0 (((0, ba, -6, -1, 0, 0, 0, ac, 0, nI uo, nI uk, nI ud, 0, 0, b, p, w), (0, va, 0, vhi, vho, vhm)) : TX × TM) := ⟨0, 0, uk, ud, uo, 0, fun _ => (0, 0, 0, 0), by decide, by decide, hk, hd, ho, fun z => absurd rfl z, rfl, rfl, rfl, rfl, rfl, ⟨rfl, fun z => absurd rfl z, rfl, rfl, rfl, rfl, rfl, rfl, ag_eq x0 c2, ag_eq x3 c5, ag_eq x4 c6⟩, rfl, rfl, (fun i hi => absurd hi (Nat.not_lt_zero i)), fun z => absurd rfl z⟩
  obtain ⟨q, q', g1, g2, g3⟩ := signs_two k0 k3 k4 k1 hn hs hf hf' (0, 0, 0, 0, -6, -1, 0, 0, 0, w, k, r, p, b, i, vwc, l, g, o, vsc) (ag_eq x1 c3) _ J0
  have hO : ∀ {z}, ret2 _ q = some z → f_X1_readAll fp ba ac (nI uk) (nI ud) (nI uo) wd kd rd pd bd' id ld gd od fg vw vk vr vp vb vi vwc vl vg vo vsc (nI n) = some z := fun h => (ob_some hb).trans ((ob_some g1).trans h)
  have hM : ∀ {z}, ret2 _ q' = some z → f_X5_fault pad (nI n) va vho vhi vhm = some z := fun h => (ob_some g2).trans h
  rcases g3 with ⟨t, ht, rfl, rfl⟩ | ⟨j, o, o', hj, rfl, rfl, h1, h2, h3, h4⟩
  · obtain ⟨q, a, k', d', o', m, A, h1, h2, h3, h4, h5, h6, h7, h8, h9, h10, h11, h12, h13, h14, h15, h16⟩ := ht
    obtain ⟨⟨acts, ba, he, hw, se, sp, why, rac, raw, rot, rsp, rwo, ln, st, vb, vp, vw⟩, du, fa, va, fd, fk, fo⟩ := t
    dsimp only at h6 h7 h8 h9 h10 h11 h12 h13 h14 h15 h16
    subst h7 h8 h9 h10 h11 h13 h14
    by_cases e : q = 0
    · subst e
      have hD : okD m (Gd (S 1) (S 0) (S 3) (S 4) A m) := Gd_ok k0 k3 k4 m (fun i hi => (h15 i hi).1)
      have hz : f_X0_isBetweenActs (nI 0) = 1 := rfl
      have h12' := h12
      obtain ⟨w1, w2, w3, w4, w5, w6, w7, w8, w9, w10, w11⟩ := h12'
      by_cases e2 : (Gd (S 1) (S 0) (S 3) (S 4) A m).1 = 0
      · refine ⟨(0, fp, nI m, ba, why, se, sp, he, hw, nI 0, rac, nI k', nI d', nI o', st, ln, vw, k, r, vp, vb, i, vwc, l, g, o, vsc), (-6, fa, fk, fd, fo, nI m), hO (by dsimp only [ret2, bd]; rw [hz, if_neg one_ne, if_pos (show why = 0 by rw [w1, e2]; rfl)]), hM rfl, ⟨k', d', o', h3, h4, h5, rfl, rfl, rfl⟩, Or.inr ⟨rfl, m, A, by omega, rfl, rfl, h15, hD, (if_pos e2).symm, h12, ?_⟩⟩
        exact ⟨w9, ag_eq x1 c3, fun j hj => (c4 j hj).trans (x2 j hj), w10, w11, ag_eq x5 c7, x6, ag_eq x7 c8, ag_eq x8 c9, ag_eq x9 c10, x10⟩
      · refine ⟨(-3, fp, nI m, ba, why, se, sp, he, hw, nI 0, rac, nI k', nI d', nI o', st, ln, vw, k, r, vp, vb, i, vwc, l, g, o, vsc), (-6, fa, fk, fd, fo, nI m), hO (by dsimp only [ret2, bd]; rw [hz, if_neg one_ne, if_neg (show ¬ why = 0 by rw [w1]; exact neL (L := 0) (b := 0) rfl e2 (by have := hD.1; omega) (by decide))]), hM rfl, ⟨k', d', o', h3, h4, h5, rfl, rfl, rfl⟩, Or.inr ⟨rfl, m, A, by omega, rfl, rfl, h15, hD, (if_neg e2).symm, h12, ?_⟩⟩
        exact ⟨w9, ag_eq x1 c3, fun j hj => (c4 j hj).trans (x2 j hj), w10, w11, ag_eq x5 c7, x6, ag_eq x7 c8, ag_eq x8 c9, ag_eq x9 c10, x10⟩
    · have hz : f_X0_isBetweenActs (nI q) = 0 := if_neg (neL (L := 0) (b := 0) rfl e (by omega) (by decide))
      have hy : ¬ nI (due q) = 0 := by
        rcases (show q = 1 ∨ q = 2 ∨ q = 3 by omega) with rfl | rfl | rfl <;> decide
      exact ⟨(-5, nI n, nI m, ba, why, se, sp, he, hw, nI q, rac, nI k', nI d', nI o', st, ln, vw, k, r, vp, vb, i, vwc, l, g, o, vsc), (nI n, fa, fk, fd, fo, nI m), hO (if_pos hz), hM (if_neg hy), ⟨k', d', o', h3, h4, h5, rfl, rfl, rfl⟩, Or.inl ⟨rfl, n, hn, rfl, rfl⟩⟩
  · exact ⟨o, o', hO rfl, hM rfl, h4, Or.inl ⟨h1, j, hj, h2, h3⟩⟩
