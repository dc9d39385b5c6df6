/-! an act by itself: 0 buys, 1 hands in, 2 speaks, 3 gives; why it can not be, and what is then -/
def whyA (w p b : Nat → Nat) (a k d o : Nat) : Nat :=
  if a = 0 then (if (b k).testBit d = true then 1 else if w d ≤ p k then 0 else 3)
  else if a = 1 then (if (b k).testBit d = true then (if p k + w d / 2 ≤ 999 then 0 else 4) else 2)
  else if a = 2 then (if (b k).testBit d = true then 0 else 2)
  else (if (b o).testBit d = true then 1 else if (b k).testBit d = true then 0 else 2)
theorem whyA_le (w p b : Nat → Nat) (a k d o : Nat) : whyA w p b a k d o ≤ 4 := by
  unfold whyA
  repeat' split
  all_goals omega
def wA (w : Nat → Nat) (a d : Nat) : Nat → Nat := if a = 2 then updN w d (w d - 1) else w
def pA (w p : Nat → Nat) (a k d : Nat) : Nat → Nat := if a = 0 then updN p k (p k - w d) else if a = 1 then updN p k (p k + w d / 2) else p
def bA (b : Nat → Nat) (a k d o : Nat) : Nat → Nat := if a = 0 then updN b k (b k ||| 2 ^ d) else if a = 1 then updN b k (an (b k) (2 ^ d)) else if a = 2 then b else updN (updN b k (an (b k) (2 ^ d))) o (b o ||| 2 ^ d)
theorem wA_le {w : Nat → Nat} {a d : Nat} (h : ∀ j, w j ≤ 99) : ∀ j, wA w a d j ≤ 99 := by
  unfold wA
  split
  · exact upd_le h (Nat.le_trans (Nat.sub_le _ _) (h d))
  · exact h
theorem pA_le {w p b : Nat → Nat} {a k d o : Nat} (h : ∀ j, p j ≤ 999) (hy : whyA w p b a k d o = 0) : ∀ j, pA w p a k d j ≤ 999 := by
  unfold pA
  unfold whyA at hy
  split
  · exact upd_le h (Nat.le_trans (Nat.sub_le _ _) (h k))
  · split
    · rename_i h0 h1
      rw [if_neg h0, if_pos h1] at hy
      split at hy
      · split at hy
        · rename_i q
          exact upd_le h q
        · omega
      · omega
    · exact h
theorem bA_lt {b : Nat → Nat} {a k d o : Nat} (h : ∀ j, b j < 4096) (hd : d < 12) : ∀ j, bA b a k d o j < 4096 := by
  unfold bA
  split
  · exact upd_lt h (or_lt (h k) (p2_lt hd))
  · split
    · exact upd_lt h (an_lt (h k))
    · split
      · exact h
      · exact upd_lt (upd_lt h (an_lt (h k))) (or_lt (h o) (p2_lt hd))
theorem isIn_t {s j : Nat} (hs : s < 4096) (hj : j < 12) (h : s.testBit j = true) : f_X4_isIn (nI j) (nI s) = 1 := by
  rw [isIn_N (by omega) (by omega), if_pos h]
theorem isIn_f {s j : Nat} (hs : s < 4096) (hj : j < 12) (h : ¬ s.testBit j = true) : f_X4_isIn (nI j) (nI s) = 0 := by
  rw [isIn_N (by omega) (by omega), if_neg h]
theorem perform_N {vw vp vb : Nat → Int32} {w p b : Nat → Nat} (hw : ag 12 vw w) (hp : ag 4 vp p) (hb : ag 4 vb b) (bw : ∀ j, w j ≤ 99) (bp : ∀ j, p j ≤ 999) (bb : ∀ j, b j < 4096) {a k d o : Nat} (ha : a ≤ 3) (hk : k < 4) (hd : d < 12) (ho : o < 4) :
    ∃ vw' vp' vb', f_X3_perform vw vp vb (nI a) (nI k) (nI d) (nI o) = some (nI (whyA w p b a k d o), vw', vp', vb') ∧ (whyA w p b a k d o = 0 → ag 12 vw' (wA w a d) ∧ ag 4 vp' (pA w p a k d) ∧ ag 4 vb' (bA b a k d o)) ∧ (¬ whyA w p b a k d o = 0 → vw' = vw ∧ vp' = vp ∧ vb' = vb) := by
  have k1 := bw d
  have k2 := bp k
  unfold f_X3_perform
  rw [bd_eq, isSpeaker_1 hk, if_neg one_ne, bd_eq, isSpeaker_1 ho, if_neg one_ne, bd_eq, isWord_1 hd, if_neg one_ne]
  rcases (show a = 0 ∨ a = 1 ∨ a = 2 ∨ a = 3 by omega) with rfl | rfl | rfl | rfl
  · rw [if_pos (show nI 0 = 0 from rfl)]
    have hdef : whyA w p b 0 k d o = if (b k).testBit d = true then 1 else if w d ≤ p k then 0 else 3 := rfl
    rw [hdef]
    unfold f_X3_buy
    rw [chk_nI _ hk (by decide), hb.at hk (by decide)]
    by_cases q : (b k).testBit d = true
    · rw [bd_eq, isIn_t (bb k) hd q, if_neg one_ne, if_pos q]
      exact ⟨vw, vp, vb, rfl, fun z => absurd z (by decide), fun _ => ⟨rfl, rfl, rfl⟩⟩
    · rw [bd_eq, isIn_f (bb k) hd q, if_pos rfl, if_neg q, chk_nI _ hd (by decide), hw.at hd (by decide), hp.at hk (by decide), one_shl (by omega), fa_or]
      by_cases q2 : w d ≤ p k
      · rw [if_pos (nI_le q2 (by omega)), if_pos q2, pk_sub q2]
        exact ⟨vw, _, _, rfl, fun _ => ⟨hw, hp.upd (by omega), hb.upd (by omega)⟩, fun z => absurd rfl z⟩
      · rw [if_neg (nI_ge (by omega) (by omega)), if_neg q2]
        exact ⟨vw, vp, vb, rfl, fun z => absurd z (by decide), fun _ => ⟨rfl, rfl, rfl⟩⟩
  · rw [if_neg (show ¬ nI 1 = 0 by decide), if_pos (show nI 1 = 1 from rfl)]
    have hdef : whyA w p b 1 k d o = if (b k).testBit d = true then (if p k + w d / 2 ≤ 999 then 0 else 4) else 2 := rfl
    rw [hdef]
    unfold f_X3_handIn
    rw [chk_nI _ hk (by decide), hb.at hk (by decide)]
    by_cases q : (b k).testBit d = true
    · rw [bd_eq, isIn_t (bb k) hd q, if_neg one_ne, if_pos q, chk_nI _ hd (by decide), hw.at hd (by decide), hp.at hk (by decide), one_shl (by omega), andnot (bb k) (p2_lt hd), show nI (w d) / 2 = nI (w d / 2) from pk_div (d := 2) (by omega) (by decide) (by decide), nI_add]
      by_cases q2 : p k + w d / 2 ≤ 999
      · rw [if_pos (show nI (p k + w d / 2) ≤ 999 from nI_le (b := 999) q2 (by decide)), if_pos q2]
        exact ⟨vw, _, _, rfl, fun _ => ⟨hw, hp.upd (by omega), hb.upd (by omega)⟩, fun z => absurd rfl z⟩
      · rw [if_neg (show ¬ nI (p k + w d / 2) ≤ 999 from nI_ge (a := 999) (by omega) (by omega)), if_neg q2]
        exact ⟨vw, vp, vb, rfl, fun z => absurd z (by decide), fun _ => ⟨rfl, rfl, rfl⟩⟩
    · rw [bd_eq, isIn_f (bb k) hd q, if_pos rfl, if_neg q]
      exact ⟨vw, vp, vb, rfl, fun z => absurd z (by decide), fun _ => ⟨rfl, rfl, rfl⟩⟩
  · rw [if_neg (show ¬ nI 2 = 0 by decide), if_neg (show ¬ nI 2 = 1 by decide), if_pos (show nI 2 = 2 from rfl)]
    have hdef : whyA w p b 2 k d o = if (b k).testBit d = true then 0 else 2 := rfl
    rw [hdef]
    unfold f_X3_speak
    rw [chk_nI _ hk (by decide), hb.at hk (by decide)]
    by_cases q : (b k).testBit d = true
    · have e : (if 0 < nI (w d) - 1 then nI (w d) - 1 else 0) = nI (w d - 1) := by
        rcases (show w d = 0 ∨ 1 ≤ w d by omega) with z | z
        · rw [z]; decide
        · rw [show nI (w d) - 1 = nI (w d - 1) from pk_sub (b := 1) z]
          by_cases z2 : w d - 1 = 0
          · rw [z2]; decide
          · rw [if_pos (show (0 : Int32) < nI (w d - 1) from nI_lt (a := 0) (by omega) (by omega))]
      rw [bd_eq, isIn_t (bb k) hd q, if_neg one_ne, if_pos q, chk_nI _ hd (by decide), hw.at hd (by decide), e]
      exact ⟨_, vp, vb, rfl, fun _ => ⟨hw.upd (by omega), hp, hb⟩, fun z => absurd rfl z⟩
    · rw [bd_eq, isIn_f (bb k) hd q, if_pos rfl, if_neg q]
      exact ⟨vw, vp, vb, rfl, fun z => absurd z (by decide), fun _ => ⟨rfl, rfl, rfl⟩⟩
  · rw [if_neg (show ¬ nI 3 = 0 by decide), if_neg (show ¬ nI 3 = 1 by decide), if_neg (show ¬ nI 3 = 2 by decide)]
    have hdef : whyA w p b 3 k d o = if (b o).testBit d = true then 1 else if (b k).testBit d = true then 0 else 2 := rfl
    rw [hdef]
    unfold f_X3_give
    rw [chk_nI _ ho (by decide), hb.at ho (by decide)]
    by_cases q : (b o).testBit d = true
    · rw [bd_eq, isIn_t (bb o) hd q, if_neg one_ne, if_pos q]
      exact ⟨vw, vp, vb, rfl, fun z => absurd z (by decide), fun _ => ⟨rfl, rfl, rfl⟩⟩
    · rw [bd_eq, isIn_f (bb o) hd q, if_pos rfl, if_neg q, chk_nI _ hk (by decide), hb.at hk (by decide)]
      by_cases q2 : (b k).testBit d = true
      · have hne : o ≠ k := fun z => q (by rw [z]; exact q2)
        rw [bd_eq, isIn_t (bb k) hd q2, if_neg one_ne, if_pos q2, one_shl (by omega), andnot (bb k) (p2_lt hd)]
        have e : upd vb (nI k).toNatClampNeg (nI (an (b k) (2 ^ d))) (nI o).toNatClampNeg = nI (b o) := by
          rw [nI_clamp (n := k) (by omega), nI_clamp (n := o) (by omega), pk_un hne]
          exact hb o ho
        rw [e, fa_or]
        exact ⟨vw, vp, _, rfl, fun _ => ⟨hw, hp, (hb.upd (by omega)).upd (by omega)⟩, fun z => absurd rfl z⟩
      · rw [bd_eq, isIn_f (bb k) hd q2, if_pos rfl, if_neg q2]
        exact ⟨vw, vp, vb, rfl, fun z => absurd z (by decide), fun _ => ⟨rfl, rfl, rfl⟩⟩
theorem hasWord_N {mb : Nat → Int32} {b : Nat → Nat} (hb : ag 4 mb b) (bb : ∀ j, b j < 4096) {k d : Nat} (hk : k < 4) (hd : d < 12) : f_X5_hasWord mb (nI k) (nI d) = some (if (b k).testBit d = true then 1 else 0) := by
  have := bb k
  unfold f_X5_hasWord
  rw [chk_nI _ hk (by decide), hb.at hk (by decide)]
  by_cases q : (b k).testBit d = true
  · rw [if_pos ((bit_1 (by omega) (by omega)).mpr q), if_pos q]
  · rw [if_neg (fun z => q ((bit_1 (by omega) (by omega)).mp z)), if_neg q]
theorem whyNot_N {mw mp mb : Nat → Int32} {w p b : Nat → Nat} (hw : ag 12 mw w) (hp : ag 4 mp p) (hb : ag 4 mb b) (bw : ∀ j, w j ≤ 99) (bp : ∀ j, p j ≤ 999) (bb : ∀ j, b j < 4096) (pl : Int32) {a k d o : Nat} (ha : a ≤ 3) (hk : k < 4) (hd : d < 12) (ho : o < 4) :
    f_X5_whyNot mw mp mb pl (nI a) (nI k) (nI d) (nI o) = some (nI (whyA w p b a k d o)) := by
  have k1 := bw d
  have k2 := bp k
  unfold f_X5_whyNot
  rw [hasWord_N hb bb hk hd, hasWord_N hb bb ho hd]
  rcases (show a = 0 ∨ a = 1 ∨ a = 2 ∨ a = 3 by omega) with rfl | rfl | rfl | rfl
  · rw [if_pos (show nI 0 = 0 from rfl)]
    have hdef : whyA w p b 0 k d o = if (b k).testBit d = true then 1 else if w d ≤ p k then 0 else 3 := rfl
    rw [hdef]
    by_cases q : (b k).testBit d = true
    · rw [if_pos q, if_pos q]; rfl
    · rw [if_neg q, if_neg q, ob_some rfl, if_pos rfl, chk_nI _ hk (by decide), chk_nI _ hd (by decide), hw.at hd (by decide), hp.at hk (by decide)]
      by_cases q2 : w d ≤ p k
      · rw [if_pos (nI_le q2 (by omega)), if_pos q2]; rfl
      · rw [if_neg (nI_ge (by omega) (by omega)), if_neg q2]; rfl
  · rw [if_neg (show ¬ nI 1 = 0 by decide), if_pos (show nI 1 = 1 from rfl)]
    have hdef : whyA w p b 1 k d o = if (b k).testBit d = true then (if p k + w d / 2 ≤ 999 then 0 else 4) else 2 := rfl
    rw [hdef]
    by_cases q : (b k).testBit d = true
    · rw [if_pos q, if_pos q, ob_some rfl, if_neg one_ne, chk_nI _ hk (by decide), chk_nI _ hd (by decide), hw.at hd (by decide), hp.at hk (by decide), show nI (w d) / 2 = nI (w d / 2) from pk_div (d := 2) (by omega) (by decide) (by decide), nI_add]
      by_cases q2 : p k + w d / 2 ≤ 999
      · rw [if_pos (show nI (p k + w d / 2) ≤ 999 from nI_le (b := 999) q2 (by decide)), if_pos q2]; rfl
      · rw [if_neg (show ¬ nI (p k + w d / 2) ≤ 999 from nI_ge (a := 999) (by omega) (by omega)), if_neg q2]; rfl
    · rw [if_neg q, if_neg q]; rfl
  · rw [if_neg (show ¬ nI 2 = 0 by decide), if_neg (show ¬ nI 2 = 1 by decide), if_pos (show nI 2 = 2 from rfl)]
    have hdef : whyA w p b 2 k d o = if (b k).testBit d = true then 0 else 2 := rfl
    rw [hdef]
    by_cases q : (b k).testBit d = true
    · rw [if_pos q, if_pos q]; rfl
    · rw [if_neg q, if_neg q]; rfl
  · rw [if_neg (show ¬ nI 3 = 0 by decide), if_neg (show ¬ nI 3 = 1 by decide), if_neg (show ¬ nI 3 = 2 by decide), if_pos (show nI 3 = 3 from rfl)]
    have hdef : whyA w p b 3 k d o = if (b o).testBit d = true then 1 else if (b k).testBit d = true then 0 else 2 := rfl
    rw [hdef]
    by_cases q : (b o).testBit d = true
    · rw [if_pos q, if_pos q]; rfl
    · rw [if_neg q, if_neg q, ob_some rfl, if_pos rfl]
      by_cases q2 : (b k).testBit d = true
      · rw [if_pos q2, if_pos q2]; rfl
      · rw [if_neg q2, if_neg q2]; rfl
/-- what the model counts when a word is spoken -/
def spk (pl om en sp he hw : Int32) (kd x d : Int32) : Int32 × Int32 × Int32 × Int32 × Int32 × Int32 := (f_X5_placeThen pl kd, om + 1, en, sp + 1, if he < 0 then d else if x ≤ hw then he else d, if he < 0 then x else if x ≤ hw then hw else x)
theorem happen_N {mw mkd mp mb : Nat → Int32} {w kd p b : Nat → Nat} (hw : ag 12 mw w) (hkd : ag 12 mkd kd) (hp : ag 4 mp p) (hb : ag 4 mb b) (bw : ∀ j, w j ≤ 99) (bp : ∀ j, p j ≤ 999) (bb : ∀ j, b j < 4096) (pl om en sp he hwt : Int32) {a k d o : Nat} (ha : a ≤ 3) (hk : k < 4) (hd : d < 12) (ho : o < 4) (hy : whyA w p b a k d o = 0) :
    ∃ w' p' b', f_X5_happen mw mkd mp mb pl om en sp he hwt (nI a) (nI k) (nI d) (nI o) = some (w', p', b', if a = 2 then spk pl om en sp he hwt (nI (kd d)) (nI (w d)) (nI d) else (pl, om, en, sp, he, hwt)) ∧ ag 12 w' (wA w a d) ∧ ag 4 p' (pA w p a k d) ∧ ag 4 b' (bA b a k d o) := by
  have k1 := bw d
  have k2 := bp k
  unfold f_X5_happen
  rcases (show a = 0 ∨ a = 1 ∨ a = 2 ∨ a = 3 by omega) with rfl | rfl | rfl | rfl
  · have hdef : whyA w p b 0 k d o = if (b k).testBit d = true then 1 else if w d ≤ p k then 0 else 3 := rfl
    rw [hdef] at hy
    have q2 : w d ≤ p k := by
      split at hy
      · omega
      · split at hy
        · assumption
        · omega
    rw [if_pos (show nI 0 = 0 from rfl), chk_nI _ hk (by decide), chk_nI _ hd (by decide), hw.at hd (by decide), hp.at hk (by decide), hb.at hk (by decide), one_shl (by omega), fa_or, pk_sub q2]
    exact ⟨_, _, _, rfl, hw, hp.upd (by omega), hb.upd (by omega)⟩
  · rw [if_neg (show ¬ nI 1 = 0 by decide), if_pos (show nI 1 = 1 from rfl), chk_nI _ hk (by decide), chk_nI _ hd (by decide), hw.at hd (by decide), hp.at hk (by decide), hb.at hk (by decide), one_shl (by omega), andnot (bb k) (p2_lt hd), show nI (w d) / 2 = nI (w d / 2) from pk_div (d := 2) (by omega) (by decide) (by decide), nI_add]
    exact ⟨_, _, _, rfl, hw, hp.upd (by omega), hb.upd (by omega)⟩
  · rw [if_neg (show ¬ nI 2 = 0 by decide), if_neg (show ¬ nI 2 = 1 by decide), if_pos (show nI 2 = 2 from rfl)]
    have e0 : nI (w d) - 0 = nI (w d - 0) := pk_sub (b := 0) (Nat.zero_le _)
    have z0 : (nI (w d) ≤ 0) ↔ w d ≤ 0 := nI_leI (b := 0) (by omega) (by decide)
    have sp : ∃ w', f_X5_speak mw mkd pl om sp he hwt (nI d) = some (w', f_X5_placeThen pl (nI (kd d)), om + 1, sp + 1, (if he < 0 then nI d else if nI (w d) ≤ hwt then he else nI d), if he < 0 then nI (w d) else if nI (w d) ≤ hwt then hwt else nI (w d)) ∧ ag 12 w' (updN w d (w d - 1)) := by
      unfold f_X5_speak
      rw [chk_nI _ hd (by decide), bd_eq, hw.at hd (by decide), hkd.at hd (by decide)]
      have up0 : w d ≤ 0 → ag 12 (upd mw (nI d).toNatClampNeg (nI (w d) - 0)) (updN w d (w d - 1)) := fun z => by
        rw [e0, show w d - 0 = w d - 1 by omega]
        exact hw.upd (by omega)
      have up1 : ¬ w d ≤ 0 → ag 12 (upd mw (nI d).toNatClampNeg (nI (w d) - 1)) (updN w d (w d - 1)) := fun z => by
        rw [show nI (w d) - 1 = nI (w d - 1) from pk_sub (b := 1) (by omega)]
        exact hw.upd (by omega)
      by_cases c1 : he < 0
      · rw [if_pos c1, if_pos c1, if_pos c1]
        by_cases c2 : w d ≤ 0
        · rw [if_pos (z0.mpr c2)]; exact ⟨_, rfl, up0 c2⟩
        · rw [if_neg (fun z => c2 (z0.mp z))]; exact ⟨_, rfl, up1 c2⟩
      · rw [if_neg c1, if_neg c1, if_neg c1]
        by_cases c3 : nI (w d) ≤ hwt
        · rw [if_pos c3, if_pos c3, if_pos c3]
          by_cases c2 : w d ≤ 0
          · rw [if_pos (z0.mpr c2)]; exact ⟨_, rfl, up0 c2⟩
          · rw [if_neg (fun z => c2 (z0.mp z))]; exact ⟨_, rfl, up1 c2⟩
        · rw [if_neg c3, if_neg c3, if_neg c3]
          by_cases c2 : w d ≤ 0
          · rw [if_pos (z0.mpr c2)]; exact ⟨_, rfl, up0 c2⟩
          · rw [if_neg (fun z => c2 (z0.mp z))]; exact ⟨_, rfl, up1 c2⟩
    obtain ⟨w', g1, g2⟩ := sp
    rw [ob_some g1]
    exact ⟨w', mp, mb, rfl, g2, hp, hb⟩
  · have hdef : whyA w p b 3 k d o = if (b o).testBit d = true then 1 else if (b k).testBit d = true then 0 else 2 := rfl
    rw [hdef] at hy
    have hne : k ≠ o := fun z => by
      subst z
      split at hy
      · omega
      · first | omega | (split at hy <;> first | contradiction | omega)
    rw [if_neg (show ¬ nI 3 = 0 by decide), if_neg (show ¬ nI 3 = 1 by decide), if_neg (show ¬ nI 3 = 2 by decide), if_pos (show nI 3 = 3 from rfl), chk_nI _ ho (by decide), chk_nI _ hk (by decide), hb.at ho (by decide), one_shl (by omega), fa_or]
    have e : upd mb (nI o).toNatClampNeg (nI (b o ||| 2 ^ d)) (nI k).toNatClampNeg = nI (b k) := by
      rw [nI_clamp (n := k) (by omega), nI_clamp (n := o) (by omega), pk_un hne]
      exact hb k hk
    rw [e, andnot (bb k) (p2_lt hd)]
    refine ⟨mw, mp, _, rfl, hw, hp, fun j hj => ?_⟩
    have hdef2 : bA b 3 k d o = updN (updN b k (an (b k) (2 ^ d))) o (b o ||| 2 ^ d) := rfl
    rw [hdef2, nI_clamp (n := k) (by omega), nI_clamp (n := o) (by omega)]
    by_cases j1 : j = k
    · subst j1
      rw [pk_us, updN_ne hne, updN_self]
    · rw [pk_un j1]
      by_cases j2 : j = o
      · subst j2
        rw [pk_us, updN_self]
      · rw [pk_un j2, updN_ne j2, updN_ne j1]
        exact hb j hj
