/-! what is asked of the days: both sides -/
def HB (had mw mp mb : Nat → Int32) : Prop := (∀ j, j < 12 → had j = mw j) ∧ (∀ j, j < 4 → had (12 + j) = mp j) ∧ ∀ j, j < 4 → had (16 + j) = mb j
theorem back_MA {S : Nat → Nat → Nat} {mw mkd mr mp mb mi ml mg mo : Nat → Int32} {mwc msc : Int32} (hM : MA S mw mkd mr mp mb mi mwc ml mg mo msc) {had : Nat → Int32} (h : HB had mw mp mb) (w p b : Nat → Int32) (v : Int32) : ∃ o, f_X5_back w p b had v = some o ∧ o.1 = v ∧ MA S o.2.1 mkd mr o.2.2.1 o.2.2.2 mi mwc ml mg mo msc := by
  obtain ⟨y0, y1, y2, y3, y4, y5⟩ := hM
  obtain ⟨g1, g2, g3⟩ := h
  obtain ⟨w', p', b', z1, z2, z3, z4⟩ := back_N w p b had v
  exact ⟨_, z1, rfl, ag_eq (ag_eq y0 g1) z2, y1, y2, ag_eq (ag_eq y3 g2) z3, ag_eq (ag_eq y4 g3) z4, y5⟩
theorem hXM (h : Option (Nat × Nat)) : (hX h).1 = (hM h).1 := by cases h <;> rfl
theorem days_two {S : Nat → Nat → Nat} (ok : okS S) {vw vk vr vp vb vi vl vg vo : Nat → Int32} {vwc vsc : Int32} {mw mkd mr mp mb mi ml mg mo : Nat → Int32} {mwc msc : Int32} (hX : XA S vw vk vr vp vb vi vwc vl vg vo vsc) (hM : MA S mw mkd mr mp mb mi mwc ml mg mo msc) {n : Nat} {sg : Nat → Nat} {sc pm : Int32} {fg pad : Nat → Int32} (hP : PA n sg sc fg) (hQ : PA n sg pm pad) (fp ba ac : Int32) {rs rw ro : Int32} (hr : RD rs rw ro) (wd kd rd pd bd' id ld gd od : Nat → Int32) (va vho vhi vhm : Nat → Int32) (pl om en sp he hw : Int32) (had : Nat → Int32) (bA' bW : Int32) :
    ∃ o o', f_X1_readAll fp ba ac rs rw ro wd kd rd pd bd' id ld gd od fg vw vk vr vp vb vi vwc vl vg vo vsc sc = some o ∧ f_X5_refusal mw mkd mp mb pad pm va vho vhi vhm pl om en sp he hw had bA' bW = some o' ∧ RD o.2.2.2.2.2.2.2.2.2.2.2.1 o.2.2.2.2.2.2.2.2.2.2.2.2.1 o.2.2.2.2.2.2.2.2.2.2.2.2.2.1 ∧ HB o'.2.2.2.2.2.2.2.2.2.2.2.2.2.2.2.1 mw mp mb ∧ ((o.1 = -5 ∧ o'.1 = -5) ∨ ∃ m D, m ≤ 60 ∧ okD m D ∧ o.2.2.1 = nI m ∧ o'.2.2.2.2.2.2.2.2.1 = nI m ∧ o.1 = (if D.1 = 0 then 0 else -3) ∧ o'.1 = (if D.1 = 0 then -6 else -3) ∧ XD D o.2.2.2.1 o.2.2.2.2.1 o.2.2.2.2.2.1 o.2.2.2.2.2.2.1 o.2.2.2.2.2.2.2.1 o.2.2.2.2.2.2.2.2.1 o.2.2.2.2.2.2.2.2.2.2.2.2.2.2.1 o.2.2.2.2.2.2.2.2.2.2.2.2.2.2.2.1 o.2.2.2.2.2.2.2.2.2.2.2.2.2.2.2.2.1 o.2.2.2.2.2.2.2.2.2.2.2.2.2.2.2.2.2.2.2.1 o.2.2.2.2.2.2.2.2.2.2.2.2.2.2.2.2.2.2.2.2.1 ∧ MD D o'.2.2.2.2.2.2.2.2.2.2.2.2.2.2.2.2.1 o'.2.2.2.2.2.2.2.2.2.2.2.2.2.2.2.2.2 o'.2.2.2.2.2.2.2.2.2.2.2.1 o'.2.2.2.2.2.2.2.2.2.2.2.2.1 o'.2.2.2.2.2.2.2.2.2.2.2.2.2.1 o'.2.2.2.2.2.2.2.2.2.2.2.2.2.2.1 o'.2.2.2.2.2.2.2.2.2.1 o'.2.2.2.2.2.2.2.2.2.2.1 o'.2.1 o'.2.2.1 o'.2.2.2.1 ∧ XA (SDy S D) o.2.2.2.2.2.2.2.2.2.2.2.2.2.2.2.2.1 o.2.2.2.2.2.2.2.2.2.2.2.2.2.2.2.2.2.1 o.2.2.2.2.2.2.2.2.2.2.2.2.2.2.2.2.2.2.1 o.2.2.2.2.2.2.2.2.2.2.2.2.2.2.2.2.2.2.2.1 o.2.2.2.2.2.2.2.2.2.2.2.2.2.2.2.2.2.2.2.2.1 o.2.2.2.2.2.2.2.2.2.2.2.2.2.2.2.2.2.2.2.2.2.1 o.2.2.2.2.2.2.2.2.2.2.2.2.2.2.2.2.2.2.2.2.2.2.1 o.2.2.2.2.2.2.2.2.2.2.2.2.2.2.2.2.2.2.2.2.2.2.2.1 o.2.2.2.2.2.2.2.2.2.2.2.2.2.2.2.2.2.2.2.2.2.2.2.2.1 o.2.2.2.2.2.2.2.2.2.2.2.2.2.2.2.2.2.2.2.2.2.2.2.2.2.1 o.2.2.2.2.2.2.2.2.2.2.2.2.2.2.2.2.2.2.2.2.2.2.2.2.2.2) := by
  obtain ⟨o, o', q1, q2, q3, q4⟩ := fault_two ok hX hP hQ fp ba ac hr wd kd rd pd bd' id ld gd od va vho vhi vhm
  obtain ⟨y0, y1, y2, y3, y4, y5⟩ := hM
  obtain ⟨h', g1, g2⟩ := keepNow_N mw mp mb had
  rcases q4 with ⟨z1, j, hj, z2, z3⟩ | ⟨z1, m, A, hm, z2, z3, z4, z5, z6, z7, z8⟩
  · exact ⟨o, _, q1, (ob_some g1).trans ((ob_some q2).trans (if_neg (by rw [z3]; exact nI_nneg (by omega)))), q3, g2, Or.inl ⟨z1, rfl⟩⟩
  · obtain ⟨k0, k1, k2, k3, k4, k5⟩ := ok
    obtain ⟨r, c1, c2⟩ := goDays_N (kd := S 1) (w := S 0) (p := S 3) (b := S 4) hm k1 k0 k3 k4 y0 y3 y4 z4 y1
    rw [← z3] at c1
    by_cases e : (Gd (S 1) (S 0) (S 3) (S 4) A m).1 = 0
    · refine ⟨o, _, q1, (ob_some g1).trans ((ob_some q2).trans ((if_pos (by rw [z1]; decide)).trans ((ob_some c1).trans (if_pos (by rw [c2.1, if_pos e]; decide))))), q3, g2, Or.inr ⟨m, _, hm, z5, z2, z3, z6, (if_pos e).symm, z7, c2, z8⟩⟩
    · refine ⟨o, _, q1, (ob_some g1).trans ((ob_some q2).trans ((if_pos (by rw [z1]; decide)).trans ((ob_some c1).trans (if_neg (by rw [c2.1, if_neg e]; exact nI_nneg (by have := z5.2.1; omega)))))), q3, g2, Or.inr ⟨m, _, hm, z5, z2, z3, z6, (if_neg e).symm, z7, c2, z8⟩⟩
theorem t_fault {S : Nat → Nat → Nat} (ok : okS S) {vw vk vr vp vb vi vl vg vo : Nat → Int32} {vwc vsc : Int32} (hX : XA S vw vk vr vp vb vi vwc vl vg vo vsc) {n : Nat} {sg : Nat → Nat} {sc pm : Int32} {fg pad : Nat → Int32} (hP : PA n sg sc fg) (hQ : PA n sg pm pad) (fp ba ac : Int32) {rs rw ro : Int32} (hr : RD rs rw ro) (wd kd rd pd bd' id ld gd od : Nat → Int32) (va vho vhi vhm : Nat → Int32) :
    ∃ o o', f_X4_fault sc fp ba ac rs rw ro wd kd rd pd bd' id ld gd od fg vw vk vr vp vb vi vwc vl vg vo vsc = some o ∧ f_X5_fault pad pm va vho vhi vhm = some o' ∧ o.1 = o'.1 ∧ RD o.2.2.2.2.2.2.2.2.2.2.2.1 o.2.2.2.2.2.2.2.2.2.2.2.2.1 o.2.2.2.2.2.2.2.2.2.2.2.2.2.1 := by
  obtain ⟨o, o', q1, q2, q3, q4⟩ := fault_two ok hX hP hQ fp ba ac hr wd kd rd pd bd' id ld gd od va vho vhi vhm
  rcases q4 with ⟨z1, j, hj, z2, z3⟩ | ⟨z1, m, A, hm, z2, z3, z4, z5, z6, z7, z8⟩
  · exact ⟨_, o', (ob_some q1).trans (if_pos z1), q2, z2.trans z3.symm, q3⟩
  · refine ⟨_, o', (ob_some q1).trans (if_neg ?_), q2, z1.symm, q3⟩
    rw [z6]
    split <;> decide
theorem t_judge {S : Nat → Nat → Nat} (ok : okS S) {vw vk vr vp vb vi vl vg vo : Nat → Int32} {vwc vsc : Int32} {mw mkd mr mp mb mi ml mg mo : Nat → Int32} {mwc msc : Int32} (hX : XA S vw vk vr vp vb vi vwc vl vg vo vsc) (hM : MA S mw mkd mr mp mb mi mwc ml mg mo msc) {n : Nat} {sg : Nat → Nat} {sc pm : Int32} {fg pad : Nat → Int32} (hP : PA n sg sc fg) (hQ : PA n sg pm pad) (fp a1 ba wy d1 d2 d3 d4 raw ac : Int32) {rs rw ro : Int32} (hr : RD rs rw ro) (rst rln : Int32) (wd kd rd pd bd' id : Nat → Int32) (wcd : Int32) (ld gd od : Nat → Int32) (scd : Int32) (va vho vhi vhm : Nat → Int32) (acs pl om en sp he hw : Int32) (had : Nat → Int32) (bA' bW p0 : Int32) :
    ∃ o o', f_X4_judge sc fp a1 ba wy d1 d2 d3 d4 raw ac rs rw ro rst rln wd kd rd pd bd' id wcd ld gd od scd fg vw vk vr vp vb vi vwc vl vg vo vsc p0 = some o ∧ f_X5_judge mw mkd mp mb pad pm va vho vhi vhm acs pl om en sp he hw had bA' bW p0 = some o' ∧ o.1 = o'.1 ∧ RD o.2.2.2.2.2.2.2.2.2.2.2.1 o.2.2.2.2.2.2.2.2.2.2.2.2.1 o.2.2.2.2.2.2.2.2.2.2.2.2.2.1 ∧ MA S o'.2.1 mkd mr o'.2.2.1 o'.2.2.2.1 mi mwc ml mg mo msc := by
  have e2 : f_X5_in p0.toInt64 0 2 = f_X4_isWithin p0 0 2 := in_eq (by decide) (by decide)
  obtain ⟨o, o', q1, q2, q3, q4, q5⟩ := days_two ok hX hM hP hQ fp ba ac hr wd kd rd pd bd' id ld gd od va vho vhi vhm pl om en sp he hw had bA' bW
  obtain ⟨b, b1, b2, b3⟩ := back_MA hM q4 o'.2.1 o'.2.2.1 o'.2.2.2.1 o'.1
  unfold f_X4_judge f_X5_judge
  simp only [bd_eq, e2]
  rcases wi_L p0 0 2 0 2 rfl rfl (by decide) (by decide) with h | ⟨h, d, -, hd, rfl⟩
  · exact ⟨_, _, if_pos h, if_pos h, rfl, hr, hM⟩
  · rw [h, if_neg one_ne, if_neg one_ne]
    rcases q5 with ⟨z1, z2⟩ | ⟨m, D, hm, hD, z1, z2, z3, z4, z5, z6, z7⟩
    · exact ⟨_, _, (ob_some q1).trans (if_pos z1), (ob_some q2).trans ((ob_some b1).trans (if_pos (b2.trans z2))), (b2.trans z2).symm, q3, b3⟩
    · obtain ⟨w1, w2, w3, w4, w5, w6, w7, w8, w9, w10, w11⟩ := z5
      obtain ⟨v1, v2, v3, v4, v5, v6, v7, v8, v9, v10, v11⟩ := z6
      by_cases e : D.1 = 0
      · rw [if_pos e] at z3 z4 v1 v2
        have n5 : ¬ o.1 = -5 := by rw [z3]; decide
        have m5 : ¬ b.1 = -5 := by rw [b2, z4]; decide
        have m3 : ¬ b.1 = -3 := by rw [b2, z4]; decide
        rcases (show d = 0 ∨ d = 1 ∨ d = 2 by omega) with rfl | rfl | rfl
        · exact ⟨_, _, (ob_some q1).trans ((if_neg n5).trans ((if_neg (by decide)).trans (if_pos z3))), (ob_some q2).trans ((ob_some b1).trans ((if_neg m5).trans ((if_pos (by decide)).trans (if_pos (by decide))))), v1.symm, q3, b3⟩
        · exact ⟨_, _, (ob_some q1).trans ((if_neg n5).trans ((if_neg (by decide)).trans (if_pos z3))), (ob_some q2).trans ((ob_some b1).trans ((if_neg m5).trans ((if_pos (by decide)).trans ((if_neg (by decide)).trans (if_pos (by decide)))))), v2.symm, q3, b3⟩
        · exact ⟨_, _, (ob_some q1).trans ((if_neg n5).trans ((if_pos (by decide)).trans (if_pos z3))), (ob_some q2).trans ((ob_some b1).trans ((if_neg m5).trans ((if_neg (by decide)).trans ((if_neg m3).trans ((if_neg (by decide)).trans (if_neg (by decide))))))), w3.trans v3.symm, q3, b3⟩
      · rw [if_neg e] at z3 z4 v1 v2
        have n5 : ¬ o.1 = -5 := by rw [z3]; decide
        have n0 : ¬ o.1 = 0 := by rw [z3]; decide
        have m5 : ¬ b.1 = -5 := by rw [b2, z4]; decide
        rcases (show d = 0 ∨ d = 1 ∨ d = 2 by omega) with rfl | rfl | rfl
        · exact ⟨_, _, (ob_some q1).trans ((if_neg n5).trans ((if_neg (by decide)).trans ((if_neg n0).trans (if_pos (by decide))))), (ob_some q2).trans ((ob_some b1).trans ((if_neg m5).trans ((if_pos (by decide)).trans (if_pos (by decide))))), (w2 e).trans v1.symm, q3, b3⟩
        · exact ⟨_, _, (ob_some q1).trans ((if_neg n5).trans ((if_neg (by decide)).trans ((if_neg n0).trans (if_neg (by decide))))), (ob_some q2).trans ((ob_some b1).trans ((if_neg m5).trans ((if_pos (by decide)).trans ((if_neg (by decide)).trans (if_pos (by decide)))))), w1.trans v2.symm, q3, b3⟩
        · exact ⟨_, _, (ob_some q1).trans ((if_neg n5).trans ((if_pos (by decide)).trans (if_neg n0))), (ob_some q2).trans ((ob_some b1).trans ((if_neg m5).trans ((if_neg (by decide)).trans (if_pos (b2.trans z4))))), z3.trans (b2.trans z4).symm, q3, b3⟩
theorem t_behind {S : Nat → Nat → Nat} (ok : okS S) {vw vk vr vp vb vi vl vg vo : Nat → Int32} {vwc vsc : Int32} {mw mkd mr mp mb mi ml mg mo : Nat → Int32} {mwc msc : Int32} (hX : XA S vw vk vr vp vb vi vwc vl vg vo vsc) (hM : MA S mw mkd mr mp mb mi mwc ml mg mo msc) {n : Nat} {sg : Nat → Nat} {sc pm : Int32} {fg pad : Nat → Int32} (hP : PA n sg sc fg) (hQ : PA n sg pm pad) (fp a1 ba wy d1 d2 d3 d4 raw ac : Int32) {rs rw ro : Int32} (hr : RD rs rw ro) (rst rln : Int32) (wd kd rd pd bd' id : Nat → Int32) (wcd : Int32) (ld gd od : Nat → Int32) (scd : Int32) (va vho vhi vhm : Nat → Int32) (acs pl om en sp he hw : Int32) (had : Nat → Int32) (bA' bW p0 p1 : Int32) :
    ∃ o o', f_X4_behind sc fp a1 ba wy d1 d2 d3 d4 raw ac rs rw ro rst rln wd kd rd pd bd' id wcd ld gd od scd fg vw vk vr vp vb vi vwc vl vg vo vsc p0 p1 = some o ∧ f_X5_behind mw mkd mp mb pad pm va vho vhi vhm acs pl om en sp he hw had bA' bW p0 p1 = some o' ∧ o.1 = o'.1 ∧ RD o.2.2.2.2.2.2.2.2.2.2.2.1 o.2.2.2.2.2.2.2.2.2.2.2.2.1 o.2.2.2.2.2.2.2.2.2.2.2.2.2.1 ∧ MA S o'.2.1 mkd mr o'.2.2.1 o'.2.2.2.1 mi mwc ml mg mo msc := by
  have e2 : f_X5_in p1.toInt64 0 1 = f_X4_isWithin p1 0 1 := in_eq (by decide) (by decide)
  obtain ⟨o, o', q1, q2, q3, q4, q5⟩ := days_two ok hX hM hP hQ fp ba ac hr wd kd rd pd bd' id ld gd od va vho vhi vhm pl om en sp he hw had bA' bW
  unfold f_X4_behind f_X5_behind
  simp only [bd_eq, e2, isSpeaker_eq]
  rcases isSpeaker_N p0 with h | ⟨h, j, hj, rfl⟩
  · exact ⟨_, _, if_pos h, if_pos h, rfl, hr, hM⟩
  · rw [h, if_neg one_ne, if_neg one_ne]
    rcases wi_L p1 0 1 0 1 rfl rfl (by decide) (by decide) with h1 | ⟨h1, d, -, hd, rfl⟩
    · exact ⟨_, _, if_pos h1, if_pos h1, rfl, hr, hM⟩
    · rw [h1, if_neg one_ne, if_neg one_ne]
      rcases q5 with ⟨z1, z2⟩ | ⟨m, D, hm, hD, z1, z2, z3, z4, z5, z6, z7⟩
      · obtain ⟨b, b1, b2, b3⟩ := back_MA hM q4 o'.2.1 o'.2.2.1 o'.2.2.2.1 o'.1
        exact ⟨_, _, (ob_some q1).trans (if_neg (by rw [z1]; decide)), (ob_some q2).trans ((if_neg (by rw [z2]; decide)).trans (ob_some b1)), z1.trans (b2.trans z2).symm, q3, b3⟩
      · obtain ⟨w1, w2, w3, w4, w5, w6, w7, w8, w9, w10, w11⟩ := z5
        obtain ⟨v1, v2, v3, v4, v5, v6, v7, v8, v9, v10, v11⟩ := z6
        by_cases e : D.1 = 0
        · rw [if_pos e] at z3 z4
          rcases (show d = 0 ∨ d = 1 by omega) with rfl | rfl
          · obtain ⟨b, b1, b2, b3⟩ := back_MA hM q4 o'.2.1 o'.2.2.1 o'.2.2.2.1 (o'.2.2.1 (nI j).toNatClampNeg)
            exact ⟨_, _, (ob_some q1).trans ((if_pos z3).trans ((if_pos (by decide)).trans (chk_nI _ hj (by decide)))), (ob_some q2).trans ((if_pos z4).trans ((if_pos (by decide)).trans ((chk_nI _ hj (by decide)).trans (ob_some b1)))), ((w10.at hj (by decide)).trans (v10.at hj (by decide)).symm).trans b2.symm, q3, b3⟩
          · obtain ⟨b, b1, b2, b3⟩ := back_MA hM q4 o'.2.1 o'.2.2.1 o'.2.2.2.1 (o'.2.2.2.1 (nI j).toNatClampNeg)
            exact ⟨_, _, (ob_some q1).trans ((if_pos z3).trans ((if_neg (by decide)).trans (chk_nI _ hj (by decide)))), (ob_some q2).trans ((if_pos z4).trans ((if_neg (by decide)).trans ((chk_nI _ hj (by decide)).trans (ob_some b1)))), ((w11.at hj (by decide)).trans (v11.at hj (by decide)).symm).trans b2.symm, q3, b3⟩
        · rw [if_neg e] at z3 z4
          obtain ⟨b, b1, b2, b3⟩ := back_MA hM q4 o'.2.1 o'.2.2.1 o'.2.2.2.1 o'.1
          exact ⟨_, _, (ob_some q1).trans (if_neg (by rw [z3]; decide)), (ob_some q2).trans ((if_neg (by rw [z4]; decide)).trans (ob_some b1)), z3.trans (b2.trans z4).symm, q3, b3⟩
theorem t_worn {S : Nat → Nat → Nat} (ok : okS S) {vw vk vr vp vb vi vl vg vo : Nat → Int32} {vwc vsc : Int32} {mw mkd mr mp mb mi ml mg mo : Nat → Int32} {mwc msc : Int32} (hX : XA S vw vk vr vp vb vi vwc vl vg vo vsc) (hM : MA S mw mkd mr mp mb mi mwc ml mg mo msc) {n : Nat} {sg : Nat → Nat} {sc pm : Int32} {fg pad : Nat → Int32} (hP : PA n sg sc fg) (hQ : PA n sg pm pad) (fp a1 ba wy d1 d2 d3 d4 raw ac : Int32) {rs rw ro : Int32} (hr : RD rs rw ro) (rst rln : Int32) (wd kd rd pd bd' id : Nat → Int32) (wcd : Int32) (ld gd od : Nat → Int32) (scd : Int32) (va vho vhi vhm : Nat → Int32) (acs pl om en sp he hw : Int32) (had : Nat → Int32) (bA' bW p0 : Int32) :
    ∃ o o', f_X4_worn sc fp a1 ba wy d1 d2 d3 d4 raw ac rs rw ro rst rln wd kd rd pd bd' id wcd ld gd od scd fg vw vk vr vp vb vi vwc vl vg vo vsc p0 = some o ∧ f_X5_worn mw mkd mp mb pad pm va vho vhi vhm acs pl om en sp he hw had bA' bW p0 = some o' ∧ o.1 = o'.1 ∧ RD o.2.2.2.2.2.2.2.2.2.2.2.1 o.2.2.2.2.2.2.2.2.2.2.2.2.1 o.2.2.2.2.2.2.2.2.2.2.2.2.2.1 ∧ MA S o'.2.1 mkd mr o'.2.2.1 o'.2.2.2.1 mi mwc ml mg mo msc := by
  obtain ⟨o, o', q1, q2, q3, q4, q5⟩ := days_two ok hX hM hP hQ fp ba ac hr wd kd rd pd bd' id ld gd od va vho vhi vhm pl om en sp he hw had bA' bW
  unfold f_X4_worn f_X5_worn
  simp only [bd_eq, isWord_eq]
  rcases isWord_N p0 with h | ⟨h, j, hj, rfl⟩
  · exact ⟨_, _, if_pos h, if_pos h, rfl, hr, hM⟩
  · rw [h, if_neg one_ne, if_neg one_ne]
    rcases q5 with ⟨z1, z2⟩ | ⟨m, D, hm, hD, z1, z2, z3, z4, z5, z6, z7⟩
    · obtain ⟨b, b1, b2, b3⟩ := back_MA hM q4 o'.2.1 o'.2.2.1 o'.2.2.2.1 o'.1
      exact ⟨_, _, (ob_some q1).trans (if_neg (by rw [z1]; decide)), (ob_some q2).trans ((if_neg (by rw [z2]; decide)).trans (ob_some b1)), z1.trans (b2.trans z2).symm, q3, b3⟩
    · obtain ⟨w1, w2, w3, w4, w5, w6, w7, w8, w9, w10, w11⟩ := z5
      obtain ⟨v1, v2, v3, v4, v5, v6, v7, v8, v9, v10, v11⟩ := z6
      by_cases e : D.1 = 0
      · rw [if_pos e] at z3 z4
        obtain ⟨b, b1, b2, b3⟩ := back_MA hM q4 o'.2.1 o'.2.2.1 o'.2.2.2.1 (o'.2.1 (nI j).toNatClampNeg)
        exact ⟨_, _, (ob_some q1).trans ((if_pos z3).trans (chk_nI _ hj (by decide))), (ob_some q2).trans ((if_pos z4).trans ((chk_nI _ hj (by decide)).trans (ob_some b1))), ((w9.at hj (by decide)).trans (v9.at hj (by decide)).symm).trans b2.symm, q3, b3⟩
      · rw [if_neg e] at z3 z4
        obtain ⟨b, b1, b2, b3⟩ := back_MA hM q4 o'.2.1 o'.2.2.1 o'.2.2.2.1 o'.1
        exact ⟨_, _, (ob_some q1).trans (if_neg (by rw [z3]; decide)), (ob_some q2).trans ((if_neg (by rw [z4]; decide)).trans (ob_some b1)), z3.trans (b2.trans z4).symm, q3, b3⟩
theorem t_said {S : Nat → Nat → Nat} (ok : okS S) {vw vk vr vp vb vi vl vg vo : Nat → Int32} {vwc vsc : Int32} {mw mkd mr mp mb mi ml mg mo : Nat → Int32} {mwc msc : Int32} (hX : XA S vw vk vr vp vb vi vwc vl vg vo vsc) (hM : MA S mw mkd mr mp mb mi mwc ml mg mo msc) {n : Nat} {sg : Nat → Nat} {sc pm : Int32} {fg pad : Nat → Int32} (hP : PA n sg sc fg) (hQ : PA n sg pm pad) (fp a1 ba wy d1 d2 d3 d4 raw ac : Int32) {rs rw ro : Int32} (hr : RD rs rw ro) (rst rln : Int32) (wd kd rd pd bd' id : Nat → Int32) (wcd : Int32) (ld gd od : Nat → Int32) (scd : Int32) (va vho vhi vhm : Nat → Int32) (acs pl om en sp he hw : Int32) (had : Nat → Int32) (bA' bW p0 : Int32) :
    ∃ o o', f_X4_said sc fp a1 ba wy d1 d2 d3 d4 raw ac rs rw ro rst rln wd kd rd pd bd' id wcd ld gd od scd fg vw vk vr vp vb vi vwc vl vg vo vsc p0 = some o ∧ f_X5_said mw mkd mp mb pad pm va vho vhi vhm acs pl om en sp he hw had bA' bW p0 = some o' ∧ o.1 = o'.1 ∧ RD o.2.2.2.2.2.2.2.2.2.2.2.1 o.2.2.2.2.2.2.2.2.2.2.2.2.1 o.2.2.2.2.2.2.2.2.2.2.2.2.2.1 ∧ MA S o'.2.1 mkd mr o'.2.2.1 o'.2.2.2.1 mi mwc ml mg mo msc := by
  have e2 : f_X5_in p0.toInt64 0 2 = f_X4_isWithin p0 0 2 := in_eq (by decide) (by decide)
  obtain ⟨o, o', q1, q2, q3, q4, q5⟩ := days_two ok hX hM hP hQ fp ba ac hr wd kd rd pd bd' id ld gd od va vho vhi vhm pl om en sp he hw had bA' bW
  obtain ⟨b, b1, b2, b3⟩ := back_MA hM q4 o'.2.1 o'.2.2.1 o'.2.2.2.1 o'.1
  unfold f_X4_said f_X5_said
  simp only [bd_eq, e2]
  rcases wi_L p0 0 2 0 2 rfl rfl (by decide) (by decide) with h | ⟨h, d, -, hd, rfl⟩
  · exact ⟨_, _, if_pos h, if_pos h, rfl, hr, hM⟩
  · rw [h, if_neg one_ne, if_neg one_ne]
    rcases q5 with ⟨z1, z2⟩ | ⟨m, D, hm, hD, z1, z2, z3, z4, z5, z6, z7⟩
    · exact ⟨_, _, (ob_some q1).trans (if_neg (by rw [z1]; decide)), (ob_some q2).trans ((ob_some b1).trans (if_neg (by rw [b2, z2]; decide))), z1.trans (b2.trans z2).symm, q3, b3⟩
    · obtain ⟨w1, w2, w3, w4, w5, w6, w7, w8, w9, w10, w11⟩ := z5
      obtain ⟨v1, v2, v3, v4, v5, v6, v7, v8, v9, v10, v11⟩ := z6
      by_cases e : D.1 = 0
      · rw [if_pos e] at z3 z4
        rcases (show d = 0 ∨ d = 1 ∨ d = 2 by omega) with rfl | rfl | rfl
        · exact ⟨_, _, (ob_some q1).trans ((if_pos z3).trans ((if_neg (by decide)).trans (if_pos (by decide)))), (ob_some q2).trans ((ob_some b1).trans ((if_pos (b2.trans z4)).trans (if_pos (by decide)))), w4.trans v4.symm, q3, b3⟩
        · exact ⟨_, _, (ob_some q1).trans ((if_pos z3).trans ((if_neg (by decide)).trans (if_neg (by decide)))), (ob_some q2).trans ((ob_some b1).trans ((if_pos (b2.trans z4)).trans ((if_neg (by decide)).trans (if_pos (by decide))))), w6.trans v6.symm, q3, b3⟩
        · exact ⟨_, _, (ob_some q1).trans ((if_pos z3).trans (if_pos (by decide))), (ob_some q2).trans ((ob_some b1).trans ((if_pos (b2.trans z4)).trans ((if_neg (by decide)).trans (if_neg (by decide))))), (w7.trans (hXM _)).trans v7.symm, q3, b3⟩
      · rw [if_neg e] at z3 z4
        exact ⟨_, _, (ob_some q1).trans (if_neg (by rw [z3]; decide)), (ob_some q2).trans ((ob_some b1).trans (if_neg (by rw [b2, z4]; decide))), z3.trans (b2.trans z4).symm, q3, b3⟩
theorem t_done {S : Nat → Nat → Nat} (ok : okS S) {vw vk vr vp vb vi vl vg vo : Nat → Int32} {vwc vsc : Int32} {mw mkd mr mp mb mi ml mg mo : Nat → Int32} {mwc msc : Int32} (hX : XA S vw vk vr vp vb vi vwc vl vg vo vsc) (hM : MA S mw mkd mr mp mb mi mwc ml mg mo msc) {n : Nat} {sg : Nat → Nat} {sc pm : Int32} {fg pad : Nat → Int32} (hP : PA n sg sc fg) (hQ : PA n sg pm pad) (fp ba ac : Int32) {rs rw ro : Int32} (hr : RD rs rw ro) (wd kd rd pd bd' id ld gd od : Nat → Int32) (va vho vhi vhm : Nat → Int32) (pl om en sp he hw : Int32) (had : Nat → Int32) (bA' bW : Int32) :
    ∃ o o' S' n', f_X4_done sc fp ba ac rs rw ro wd kd rd pd bd' id ld gd od fg vw vk vr vp vb vi vwc vl vg vo vsc = some o ∧ f_X5_done mw mkd mp mb pad pm va vho vhi vhm pl om en sp he hw had bA' bW = some o' ∧ o.1 = o'.1 ∧ okS S' ∧ XA S' o.2.2.2.2.2.2.2.2.2.2.2.2.2.2.2.2.2.2.2.2.2.2.2.2.2.2.2.2.1 o.2.2.2.2.2.2.2.2.2.2.2.2.2.2.2.2.2.2.2.2.2.2.2.2.2.2.2.2.2.1 o.2.2.2.2.2.2.2.2.2.2.2.2.2.2.2.2.2.2.2.2.2.2.2.2.2.2.2.2.2.2.1 o.2.2.2.2.2.2.2.2.2.2.2.2.2.2.2.2.2.2.2.2.2.2.2.2.2.2.2.2.2.2.2.1 o.2.2.2.2.2.2.2.2.2.2.2.2.2.2.2.2.2.2.2.2.2.2.2.2.2.2.2.2.2.2.2.2.1 o.2.2.2.2.2.2.2.2.2.2.2.2.2.2.2.2.2.2.2.2.2.2.2.2.2.2.2.2.2.2.2.2.2.1 o.2.2.2.2.2.2.2.2.2.2.2.2.2.2.2.2.2.2.2.2.2.2.2.2.2.2.2.2.2.2.2.2.2.2.1 o.2.2.2.2.2.2.2.2.2.2.2.2.2.2.2.2.2.2.2.2.2.2.2.2.2.2.2.2.2.2.2.2.2.2.2.1 o.2.2.2.2.2.2.2.2.2.2.2.2.2.2.2.2.2.2.2.2.2.2.2.2.2.2.2.2.2.2.2.2.2.2.2.2.1 o.2.2.2.2.2.2.2.2.2.2.2.2.2.2.2.2.2.2.2.2.2.2.2.2.2.2.2.2.2.2.2.2.2.2.2.2.2.1 o.2.2.2.2.2.2.2.2.2.2.2.2.2.2.2.2.2.2.2.2.2.2.2.2.2.2.2.2.2.2.2.2.2.2.2.2.2.2 ∧ MA S' o'.2.1 mkd mr o'.2.2.1 o'.2.2.2.1 mi mwc ml mg mo msc ∧ RD o.2.2.2.2.2.2.2.2.2.2.2.2.1 o.2.2.2.2.2.2.2.2.2.2.2.2.2.1 o.2.2.2.2.2.2.2.2.2.2.2.2.2.2.1 ∧ PA n' sg o.2.1 fg ∧ PA n' sg o'.2.2.2.2.1 pad := by
  obtain ⟨o, o', q1, q2, q3, q4, q5⟩ := days_two ok hX hM hP hQ fp ba ac hr wd kd rd pd bd' id ld gd od va vho vhi vhm pl om en sp he hw had bA' bW
  obtain ⟨b, b1, b2, b3⟩ := back_MA hM q4 o'.2.1 o'.2.2.1 o'.2.2.2.1 o'.1
  unfold f_X4_done f_X5_done
  rcases q5 with ⟨z1, z2⟩ | ⟨m, D, hm, hD, z1, z2, z3, z4, z5, z6, z7⟩
  · exact ⟨_, _, S, n, (ob_some q1).trans (if_neg (by rw [z1]; decide)), (ob_some q2).trans ((if_neg (by rw [z2]; decide)).trans (ob_some b1)), z1.trans (b2.trans z2).symm, ok, hX, b3, q3, hP, hQ⟩
  · by_cases e : D.1 = 0
    · rw [if_pos e] at z3 z4
      obtain ⟨w, k, r, p, b', i, l, g, o2, c1, c2, c3, c4, c5, c6, c7, c8, c9, c10⟩ := copyFrom_N vw vk vr vp vb vi vl vg vo o.2.2.2.2.2.2.2.2.2.2.2.2.2.2.2.2.1 o.2.2.2.2.2.2.2.2.2.2.2.2.2.2.2.2.2.1 o.2.2.2.2.2.2.2.2.2.2.2.2.2.2.2.2.2.2.1 o.2.2.2.2.2.2.2.2.2.2.2.2.2.2.2.2.2.2.2.1 o.2.2.2.2.2.2.2.2.2.2.2.2.2.2.2.2.2.2.2.2.1 o.2.2.2.2.2.2.2.2.2.2.2.2.2.2.2.2.2.2.2.2.2.1 o.2.2.2.2.2.2.2.2.2.2.2.2.2.2.2.2.2.2.2.2.2.2.1 o.2.2.2.2.2.2.2.2.2.2.2.2.2.2.2.2.2.2.2.2.2.2.2.1 o.2.2.2.2.2.2.2.2.2.2.2.2.2.2.2.2.2.2.2.2.2.2.2.2.1 o.2.2.2.2.2.2.2.2.2.2.2.2.2.2.2.2.2.2.2.2.2.2.2.2.2.1 o.2.2.2.2.2.2.2.2.2.2.2.2.2.2.2.2.2.2.2.2.2.2.2.2.2.2
      obtain ⟨v1, v2, v3, v4, v5, v6, v7, v8, v9, v10, v11⟩ := z6
      obtain ⟨x0, x1, x2, x3, x4, x5, x6, x7, x8, x9, x10⟩ := z7
      obtain ⟨y0, y1, y2, y3, y4, y5⟩ := hM
      obtain ⟨-, hn, hs, hf⟩ := hP
      obtain ⟨-, -, -, hf'⟩ := hQ
      exact ⟨_, _, SDy S D, 0, (ob_some q1).trans ((if_pos z3).trans (ob_some c1)), (ob_some q2).trans (if_pos z4), z1.trans z2.symm, SDy_ok ok hD, ⟨ag_eq x0 c2, ag_eq x1 c3, fun j hj => (c4 j hj).trans (x2 j hj), ag_eq x3 c5, ag_eq x4 c6, ag_eq x5 c7, x6, ag_eq x7 c8, ag_eq x8 c9, ag_eq x9 c10, x10⟩, ⟨v9, y1, y2, v10, v11, y5⟩, q3, ⟨rfl, Nat.zero_le _, hs, fun j hj => absurd hj (Nat.not_lt_zero j)⟩, ⟨rfl, Nat.zero_le _, hs, fun j hj => absurd hj (Nat.not_lt_zero j)⟩⟩
    · rw [if_neg e] at z3 z4
      exact ⟨_, _, S, n, (ob_some q1).trans (if_neg (by rw [z3]; decide)), (ob_some q2).trans ((if_neg (by rw [z4]; decide)).trans (ob_some b1)), z3.trans (b2.trans z4).symm, ok, hX, b3, q3, hP, hQ⟩
