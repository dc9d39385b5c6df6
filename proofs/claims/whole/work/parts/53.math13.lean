/-! the days of the model's side -/
def MR (m : Nat) (fa fk fd fo : Nat → Int32) (A : Nat → Nat × Nat × Nat × Nat) : Prop := ∀ i, i < m → okA (A i) ∧ fa i = nI (A i).1 ∧ fk i = nI (A i).2.1 ∧ fd i = nI (A i).2.2.1 ∧ fo i = nI (A i).2.2.2
theorem whyDot_N (mw mp mb : Nat → Int32) {st : Nat} (h : st ≤ 5) (k d o : Int32) : f_X5_whyNot mw mp mb (nI st) 4 k d o = some (if st = 2 ∨ st = 4 then 0 else 5) := by
  unfold f_X5_whyNot
  rw [if_neg (by decide), if_neg (by decide), if_neg (by decide), if_neg (by decide)]
  rcases (show st = 0 ∨ st = 1 ∨ st = 2 ∨ st = 3 ∨ st = 4 ∨ st = 5 by omega) with rfl | rfl | rfl | rfl | rfl | rfl <;> decide
theorem goStep_N {kd : Nat → Nat} {i m : Nat} {D : Dy} {A : Nat → Nat × Nat × Nat × Nat} (hi : i < m) (hm : m ≤ 60) (hD : okD i D) (hk : ∀ j, kd j ≤ 2) {mkd fa fk fd fo : Nat → Int32} (hR : MR m fa fk fd fo A) (hkd : ag 12 mkd kd) (hy0 : D.1 = 0) {bad bw se sp he hw pl om : Int32} {vw vp vb : Nat → Int32} (h : MD D bad bw se sp he hw pl om vw vp vb) :
    ∃ r, s_X5_goDays_18 mkd fa fk fd fo (nI m) (nI i, bad, bw, se, vb, he, hw, om, pl, vp, sp, vw) = some (.inl (nI (i + 1), r)) ∧ MD (dstep kd i D (A i)) r.1 r.2.1 r.2.2.1 r.2.2.2.2.2.2.2.2.2.1 r.2.2.2.2.1 r.2.2.2.2.2.1 r.2.2.2.2.2.2.2.1 r.2.2.2.2.2.2.1 r.2.2.2.2.2.2.2.2.2.2 r.2.2.2.2.2.2.2.2.1 r.2.2.2.1 := by
  obtain ⟨h1, h2, rfl, rfl, rfl, rfl, rfl, rfl, h9, h10, h11⟩ := h
  rw [if_pos hy0] at h1 h2
  subst h1
  subst h2
  obtain ⟨a1, a2, a3, a4, a5, a6, a7, a8, a9, a10⟩ := hD
  obtain ⟨⟨b1, b2, b3, b4⟩, c1, c2, c3, c4⟩ := hR i hi
  unfold s_X5_goDays_18
  dsimp only
  rw [if_neg (nI_ge hi (by omega)), if_neg (show ¬ (0 : Int32) ≤ -6 by decide), chk_nI _ (by omega) (by decide), nI_clamp (by omega), c1, c2, c3, c4, nI_1]
  generalize hA : A i = B at b1 b2 b3 b4 ⊢
  clear c1 c2 c3 c4 hR
  by_cases e4 : B.1 = 4
  · rw [e4, show nI 4 = 4 from rfl, ob_some (whyDot_N _ _ _ a5 _ _ _)]
    by_cases e : D.2.2.2.2.1 = 2 ∨ D.2.2.2.2.1 = 4
    · have ed : dstep kd i D B = (0, D.2.1, D.2.2.1 + 1, D.2.2.2.1, 0, 0, D.2.2.2.2.2.2.1, D.2.2.2.2.2.2.2.1, D.2.2.2.2.2.2.2.2.1, D.2.2.2.2.2.2.2.2.2) := by
        unfold dstep
        rw [if_pos hy0, if_pos e4, if_pos e]
      rw [if_pos e, if_pos (by decide), if_pos rfl, ed]
      exact ⟨_, rfl, rfl, rfl, nI_1 _, rfl, rfl, rfl, rfl, rfl, h9, h10, h11⟩
    · have ed : dstep kd i D B = (5, i, D.2.2.1, D.2.2.2.1, D.2.2.2.2.1, D.2.2.2.2.2.1, D.2.2.2.2.2.2.1, D.2.2.2.2.2.2.2.1, D.2.2.2.2.2.2.2.2.1, D.2.2.2.2.2.2.2.2.2) := by
        unfold dstep
        rw [if_pos hy0, if_pos e4, if_neg e]
      rw [if_neg e, if_neg (by decide), if_neg (by decide), ed]
      exact ⟨_, rfl, rfl, rfl, rfl, rfl, rfl, rfl, rfl, rfl, h9, h10, h11⟩
  · have hy := whyNot_N h9 h10 h11 a8 a9 a10 (nI D.2.2.2.2.1) (a := B.1) (k := B.2.1) (d := B.2.2.1) (o := B.2.2.2) (by omega) b2 b3 b4
    have wl := whyA_le D.2.2.2.2.2.2.2.1 D.2.2.2.2.2.2.2.2.1 D.2.2.2.2.2.2.2.2.2 B.1 B.2.1 B.2.2.1 B.2.2.2
    rw [ob_some hy]
    by_cases q : whyA D.2.2.2.2.2.2.2.1 D.2.2.2.2.2.2.2.2.1 D.2.2.2.2.2.2.2.2.2 B.1 B.2.1 B.2.2.1 B.2.2.2 = 0
    · obtain ⟨w', p', b', g1, g2, g3, g4⟩ := happen_N h9 hkd h10 h11 a8 a9 a10 (nI D.2.2.2.2.1) (nI D.2.2.2.2.2.1) (nI D.2.2.1) (nI D.2.2.2.1) (hM D.2.2.2.2.2.2.1).1 (hM D.2.2.2.2.2.2.1).2 (a := B.1) (k := B.2.1) (d := B.2.2.1) (o := B.2.2.2) (by omega) b2 b3 b4 q
      have ed : dstep kd i D B = (0, D.2.1, D.2.2.1, (if B.1 = 2 then D.2.2.2.1 + 1 else D.2.2.2.1), (if B.1 = 2 then stg D.2.2.2.2.1 (kd B.2.2.1) else D.2.2.2.2.1), (if B.1 = 2 then D.2.2.2.2.2.1 + 1 else D.2.2.2.2.2.1), (if B.1 = 2 then heav D.2.2.2.2.2.2.1 B.2.2.1 (D.2.2.2.2.2.2.2.1 B.2.2.1) else D.2.2.2.2.2.2.1), wA D.2.2.2.2.2.2.2.1 B.1 B.2.2.1, pA D.2.2.2.2.2.2.2.1 D.2.2.2.2.2.2.2.2.1 B.1 B.2.1 B.2.2.1, bA D.2.2.2.2.2.2.2.2.2 B.1 B.2.1 B.2.2.1 B.2.2.2) := by
        unfold dstep
        rw [if_pos hy0, if_neg e4, if_pos q]
      rw [q, if_pos (by decide), if_pos (by decide), ob_some g1, ed]
      by_cases e2 : B.1 = 2
      · rw [if_pos e2, if_pos e2, if_pos e2, if_pos e2, if_pos e2]
        obtain ⟨n1, n2⟩ := note_M _ a7 (d := B.2.2.1) (x := D.2.2.2.2.2.2.2.1 B.2.2.1) b3 (a8 _)
        exact ⟨_, rfl, rfl, rfl, rfl, nI_1 _, (stg_all _ (by omega) _ (by have := hk B.2.2.1; omega)).2, nI_1 _, n1, n2, g2, g3, g4⟩
      · rw [if_neg e2, if_neg e2, if_neg e2, if_neg e2, if_neg e2]
        exact ⟨_, rfl, rfl, rfl, rfl, rfl, rfl, rfl, rfl, rfl, g2, g3, g4⟩
    · have ed : dstep kd i D B = (whyA D.2.2.2.2.2.2.2.1 D.2.2.2.2.2.2.2.2.1 D.2.2.2.2.2.2.2.2.2 B.1 B.2.1 B.2.2.1 B.2.2.2, i, D.2.2.1, D.2.2.2.1, D.2.2.2.2.1, D.2.2.2.2.2.1, D.2.2.2.2.2.2.1, D.2.2.2.2.2.2.2.1, D.2.2.2.2.2.2.2.2.1, D.2.2.2.2.2.2.2.2.2) := by
        unfold dstep
        rw [if_pos hy0, if_neg e4, if_neg q]
      rw [if_neg (show ¬ nI _ ≤ 0 from nI_ge (a := 0) (by omega) (by omega)), if_neg (neL (L := 0) (b := 0) rfl q (by omega) (by decide)), ed]
      exact ⟨_, rfl, (if_neg q).symm, (if_neg q).symm, rfl, rfl, rfl, rfl, rfl, rfl, h9, h10, h11⟩
theorem goDays_N {kd w p b : Nat → Nat} {m : Nat} {A : Nat → Nat × Nat × Nat × Nat} (hm : m ≤ 60) (hk : ∀ j, kd j ≤ 2) (bw : ∀ j, w j ≤ 99) (bp : ∀ j, p j ≤ 999) (bb : ∀ j, b j < 4096) {mw mkd mp mb fa fk fd fo : Nat → Int32} (hw : ag 12 mw w) (hp : ag 4 mp p) (hb : ag 4 mb b) (hR : MR m fa fk fd fo A) (hkd : ag 12 mkd kd) :
    ∃ o, f_X5_goDays mw mkd mp mb fa fk fd fo (nI m) = some o ∧ MD (Gd kd w p b A m) o.2.2.2.2.2.2.2.2.2.1 o.2.2.2.2.2.2.2.2.2.2 o.2.2.2.2.2.1 o.2.2.2.2.2.2.1 o.2.2.2.2.2.2.2.1 o.2.2.2.2.2.2.2.2.1 o.2.2.2.1 o.2.2.2.2.1 o.1 o.2.1 o.2.2.1 := by
  have okA' : ∀ j, j ≤ m → okD j (Gd kd w p b A j) := fun j hj => Gd_ok bw bp bb j (fun i hi => (hR i (by omega)).1)
  obtain ⟨r, h1, h2⟩ := wh_inv (step := s_X5_goDays_18 mkd fa fk fd fo (nI m)) (emb := fun j (t : Int32 × Int32 × Int32 × (Nat → Int32) × Int32 × Int32 × Int32 × Int32 × (Nat → Int32) × Int32 × (Nat → Int32)) => (nI j, t)) (P := fun j r => MD (Gd kd w p b A j) r.1 r.2.1 r.2.2.1 r.2.2.2.2.2.2.2.2.2.1 r.2.2.2.2.1 r.2.2.2.2.2.1 r.2.2.2.2.2.2.2.1 r.2.2.2.2.2.2.1 r.2.2.2.2.2.2.2.2.2.2 r.2.2.2.2.2.2.2.2.1 r.2.2.2.1) (Q := fun q => MD (Gd kd w p b A m) q.2.1 q.2.2.1 q.2.2.2.1 q.2.2.2.2.2.2.2.2.2.2.1 q.2.2.2.2.2.1 q.2.2.2.2.2.2.1 q.2.2.2.2.2.2.2.2.1 q.2.2.2.2.2.2.2.1 q.2.2.2.2.2.2.2.2.2.2.2 q.2.2.2.2.2.2.2.2.2.1 q.2.2.2.2.1) m (fun j t hj ht => by
    by_cases q : (Gd kd w p b A j).1 = 0
    · obtain ⟨r, g1, g2⟩ := goStep_N hj hm (okA' j (by omega)) hk hR hkd q ht
      exact Or.inl ⟨r, g1, g2⟩
    · refine Or.inr ⟨(nI j, t), ?_, ?_⟩
      · have hb : t.1 = nI (Gd kd w p b A j).2.1 := ht.1.trans (if_neg q)
        have : (0 : Int32) ≤ t.1 := by
          rw [hb]
          have := (okA' j (by omega)).2.1
          exact nI_le (a := 0) (Nat.zero_le _) (by omega)
        unfold s_X5_goDays_18
        dsimp only
        rw [if_neg (nI_ge hj (by omega)), if_pos this]
      · have e := Gd_stay q (m - j)
        rw [show j + (m - j) = m by omega] at e
        rw [e]
        exact ht) (fun t ht => ⟨(nI m, t), by
    unfold s_X5_goDays_18
    dsimp only
    rw [if_pos (nI_le (Nat.le_refl m) (by omega))], ht⟩) (fuel := 5000) (j0 := 0) (t0 := (-6, -6, 0, mb, -6, 0, 0, 0, mp, 0, mw)) (by omega) (by omega) ⟨rfl, rfl, rfl, rfl, rfl, rfl, rfl, rfl, hw, hp, hb⟩
  exact ⟨_, ob_some h1, h2⟩
