/-! the state of a shop, and how the two sides hold it: 0 weights, 1 kinds, 2 rhymes (whose number one bears), 3 purses, 4 belongings, 5 wishes, 6 lefts, 7 rights, 8 outcomes, 9 how many wishes, sights -/
def okS (S : Nat → Nat → Nat) : Prop := (∀ j, S 0 j ≤ 99) ∧ (∀ j, S 1 j ≤ 2) ∧ (∀ j, S 2 j < 12) ∧ (∀ j, S 3 j ≤ 999) ∧ (∀ j, S 4 j < 4096) ∧ (∀ j, S 5 j < 4096) ∧ (∀ j, S 6 j < 4096) ∧ (∀ j, S 7 j < 4096) ∧ (∀ j, S 8 j ≤ 2) ∧ S 9 0 ≤ 8 ∧ S 9 1 ≤ 6
def mk (m : Nat → Nat) : Nat → Nat := fun j => kset m (m j) 12
def XA (S : Nat → Nat → Nat) (vw vk vr vp vb vi : Nat → Int32) (vwc : Int32) (vl vg vo : Nat → Int32) (vsc : Int32) : Prop := ag 12 vw (S 0) ∧ ag 12 vk (S 1) ∧ ag 12 vr (mk (S 2)) ∧ ag 4 vp (S 3) ∧ ag 4 vb (S 4) ∧ ag 8 vi (S 5) ∧ vwc = nI (S 9 0) ∧ ag 6 vl (S 6) ∧ ag 6 vg (S 7) ∧ ag 6 vo (S 8) ∧ vsc = nI (S 9 1)
def MA (S : Nat → Nat → Nat) (vw vk vr vp vb vi : Nat → Int32) (vwc : Int32) (vl vg vo : Nat → Int32) (vsc : Int32) : Prop := ag 12 vw (S 0) ∧ ag 12 vk (S 1) ∧ ag 12 vr (S 2) ∧ ag 4 vp (S 3) ∧ ag 4 vb (S 4) ∧ ag 8 vi (S 5) ∧ vwc = nI (S 9 0) ∧ ag 6 vl (S 6) ∧ ag 6 vg (S 7) ∧ ag 6 vo (S 8) ∧ vsc = nI (S 9 1)
def setS (S : Nat → Nat → Nat) (i : Nat) (f : Nat → Nat) : Nat → Nat → Nat := fun k => if k = i then f else S k
theorem setS_0 (S : Nat → Nat → Nat) (i : Nat) (f : Nat → Nat) : setS S i f i = f := if_pos rfl
theorem setS_n (S : Nat → Nat → Nat) {i k : Nat} (f : Nat → Nat) (h : k ≠ i) : setS S i f k = S k := if_neg h
theorem wi_L (x lo' hi' : Int32) (lo hi : Nat) (e1 : lo' = nI lo) (e2 : hi' = nI hi) (hlo : lo < 2 ^ 31) (hhi : hi < 2 ^ 31) : f_X4_isWithin x lo' hi' = 0 ∨ (f_X4_isWithin x lo' hi' = 1 ∧ ∃ j, lo ≤ j ∧ j ≤ hi ∧ x = nI j) := by
  subst e1
  subst e2
  exact wi_N x lo hi hlo hhi
/-- the pad -/
def PA (n : Nat) (sg : Nat → Nat) (c : Int32) (f : Nat → Int32) : Prop := c = nI n ∧ n ≤ 60 ∧ (∀ j, 33 ≤ sg j ∧ sg j ≤ 126) ∧ ∀ j, j < n → f j = nI (sg j)
theorem upd_le {f : Nat → Nat} {k x c : Nat} (h : ∀ j, f j ≤ c) (hx : x ≤ c) : ∀ j, updN f k x j ≤ c := fun j => by
  unfold updN
  split
  · exact hx
  · exact h j
theorem upd_lt {f : Nat → Nat} {k x c : Nat} (h : ∀ j, f j < c) (hx : x < c) : ∀ j, updN f k x j < c := fun j => by
  unfold updN
  split
  · exact hx
  · exact h j
theorem t_word {S : Nat → Nat → Nat} (ok : okS S) {vw vk vr vp vb vi vl vg vo : Nat → Int32} {vwc vsc : Int32} {mw mkd mr mp mb mi ml mg mo : Nat → Int32} {mwc msc : Int32} (hX : XA S vw vk vr vp vb vi vwc vl vg vo vsc) (hM : MA S mw mkd mr mp mb mi mwc ml mg mo msc) (p0 p1 p2 : Int32) :
    ∃ o o' S', f_X4_word vw vk p0 p1 p2 = some o ∧ f_X5_word mw mkd p0 p1 p2 = some o' ∧ o.1 = o'.1 ∧ okS S' ∧ XA S' o.2.1 o.2.2 vr vp vb vi vwc vl vg vo vsc ∧ MA S' o'.2.1 o'.2.2 mr mp mb mi mwc ml mg mo msc := by
  have e1 : f_X5_in p1.toInt64 0 99 = f_X4_isWithin p1 0 99 := in_eq (by decide) (by decide)
  have e2 : f_X5_in p2.toInt64 0 2 = f_X4_isWithin p2 0 2 := in_eq (by decide) (by decide)
  unfold f_X4_word f_X5_word
  simp only [bd_eq, isWord_eq, e1, e2]
  rcases isWord_N p0 with h | ⟨h, j, hj, rfl⟩
  · refine ⟨(-1, vw, vk), (-1, mw, mkd), S, ?_, ?_, rfl, ok, hX, hM⟩ <;> rw [if_pos h]
  · rw [h, if_neg one_ne, if_neg one_ne]
    rcases wi_L p1 0 99 0 99 rfl rfl (by decide) (by decide) with h1 | ⟨h1, a, -, ha, rfl⟩
    · refine ⟨(-2, vw, vk), (-2, mw, mkd), S, ?_, ?_, rfl, ok, hX, hM⟩ <;> rw [if_pos h1]
    · rw [h1, if_neg one_ne, if_neg one_ne]
      rcases wi_L p2 0 2 0 2 rfl rfl (by decide) (by decide) with h2 | ⟨h2, b, -, hb, rfl⟩
      · refine ⟨(-2, vw, vk), (-2, mw, mkd), S, ?_, ?_, rfl, ok, hX, hM⟩ <;> rw [if_pos h2]
      · rw [h2, if_neg one_ne, if_neg one_ne, chk_nI _ hj (by decide), chk_nI _ hj (by decide)]
        obtain ⟨x0, x1, x2⟩ := hX
        obtain ⟨y0, y1, y2⟩ := hM
        obtain ⟨k0, k1, k2⟩ := ok
        refine ⟨_, _, setS (setS S 0 (updN (S 0) j a)) 1 (updN (S 1) j b), rfl, rfl, ?_, ?_, ?_, ?_⟩
        · show vw _ = mw _
          rw [x0.at hj (by decide), y0.at hj (by decide)]
        · exact ⟨upd_le k0 ha, upd_le k1 hb, k2⟩
        · exact ⟨x0.upd (by omega), x1.upd (by omega), x2⟩
        · exact ⟨y0.upd (by omega), y1.upd (by omega), y2⟩
theorem t_speaker {S : Nat → Nat → Nat} (ok : okS S) {vw vk vr vp vb vi vl vg vo : Nat → Int32} {vwc vsc : Int32} {mw mkd mr mp mb mi ml mg mo : Nat → Int32} {mwc msc : Int32} (hX : XA S vw vk vr vp vb vi vwc vl vg vo vsc) (hM : MA S mw mkd mr mp mb mi mwc ml mg mo msc) (p0 p1 p2 : Int32) :
    ∃ o o' S', f_X4_speaker vp vb p0 p1 p2 = some o ∧ f_X5_speaker mp mb p0 p1 p2 = some o' ∧ o.1 = o'.1 ∧ okS S' ∧ XA S' vw vk vr o.2.1 o.2.2 vi vwc vl vg vo vsc ∧ MA S' mw mkd mr o'.2.1 o'.2.2 mi mwc ml mg mo msc := by
  have e1 : f_X5_in p1.toInt64 0 999 = f_X4_isWithin p1 0 999 := in_eq (by decide) (by decide)
  have e2 : f_X5_in p2.toInt64 0 4095 = f_X4_isSet p2 := in_eq (by decide) (by decide)
  unfold f_X4_speaker f_X5_speaker
  simp only [bd_eq, isSpeaker_eq, e1, e2]
  rcases isSpeaker_N p0 with h | ⟨h, j, hj, rfl⟩
  · refine ⟨(-1, vp, vb), (-1, mp, mb), S, ?_, ?_, rfl, ok, hX, hM⟩ <;> rw [if_pos h]
  · rw [h, if_neg one_ne, if_neg one_ne]
    rcases wi_L p1 0 999 0 999 rfl rfl (by decide) (by decide) with h1 | ⟨h1, a, -, ha, rfl⟩
    · refine ⟨(-2, vp, vb), (-2, mp, mb), S, ?_, ?_, rfl, ok, hX, hM⟩ <;> rw [if_pos h1]
    · rw [h1, if_neg one_ne, if_neg one_ne]
      rcases isSet_N p2 with h2 | ⟨h2, b, hb, rfl⟩
      · refine ⟨(-2, vp, vb), (-2, mp, mb), S, ?_, ?_, rfl, ok, hX, hM⟩ <;> rw [if_pos h2]
      · rw [h2, if_neg one_ne, if_neg one_ne, chk_nI _ hj (by decide), chk_nI _ hj (by decide)]
        obtain ⟨x0, x1, x2, x3, x4, x5⟩ := hX
        obtain ⟨y0, y1, y2, y3, y4, y5⟩ := hM
        obtain ⟨k0, k1, k2, k3, k4, k5⟩ := ok
        refine ⟨_, _, setS (setS S 3 (updN (S 3) j a)) 4 (updN (S 4) j b), rfl, rfl, ?_, ?_, ?_, ?_⟩
        · show vp _ = mp _
          rw [x3.at hj (by decide), y3.at hj (by decide)]
        · exact ⟨k0, k1, k2, upd_le k3 ha, upd_lt k4 hb, k5⟩
        · exact ⟨x0, x1, x2, x3.upd (by omega), x4.upd (by omega), x5⟩
        · exact ⟨y0, y1, y2, y3.upd (by omega), y4.upd (by omega), y5⟩
theorem t_say {n : Nat} {sg : Nat → Nat} {c c' : Int32} {f f' : Nat → Int32} (hX : PA n sg c f) (hM : PA n sg c' f') (p0 : Int32) :
    ∃ o o' n' sg', f_X4_say c f p0 = some o ∧ f_X5_say f' c' p0 = some o' ∧ o.1 = o'.1 ∧ PA n' sg' o.2.1 o.2.2 ∧ PA n' sg' o'.2.2 o'.2.1 := by
  have e1 : f_X5_in p0.toInt64 33 126 = f_X4_isWithin p0 33 126 := in_eq (by decide) (by decide)
  obtain ⟨rfl, hn, hs, hf⟩ := hX
  obtain ⟨rfl, -, -, hf'⟩ := hM
  unfold f_X4_say f_X5_say
  simp only [bd_eq, e1]
  rcases wi_L p0 33 126 33 126 rfl rfl (by decide) (by decide) with h | ⟨h, a, ha, ha2, rfl⟩
  · refine ⟨(-2, nI n, f), (-2, f', nI n), n, sg, ?_, ?_, rfl, ⟨rfl, hn, hs, hf⟩, ⟨rfl, hn, hs, hf'⟩⟩ <;> rw [if_pos h]
  · rw [h, if_neg one_ne, if_neg one_ne]
    by_cases e : n = 60
    · subst e
      refine ⟨(-4, nI 60, f), (-4, f', nI 60), 60, sg, ?_, ?_, rfl, ⟨rfl, hn, hs, hf⟩, ⟨rfl, hn, hs, hf'⟩⟩
      · rw [if_pos (by decide)]
      · rw [if_pos (by decide)]
    · have h1 : f_X4_isWithin (nI n) 0 59 = 1 := wi_1 (lo := 0) (hi := 59) (by omega) (by omega) (by decide)
      have h2 : ¬ nI n = 60 := fun q => e ((nI_eq (b := 60) (by omega) (by decide)).mp q)
      rw [h1, if_neg one_ne, if_neg h2, chk_nI _ (by omega) (by decide), chk_nI _ (by omega) (by decide)]
      have key : ∀ g : Nat → Int32, (∀ j, j < n → g j = nI (sg j)) → PA (n + 1) (updN sg n a) (nI n + 1) (upd g (nI n).toNatClampNeg (nI a)) := fun g hg => ⟨nI_1 n, by omega, fun j => by
        unfold updN
        split
        · exact ⟨ha, ha2⟩
        · exact hs j, fun j hj => by
        rw [nI_clamp (by omega)]
        by_cases q : j = n
        · subst q; rw [pk_us, updN_self]
        · rw [pk_un q, updN_ne q]; exact hg j (by omega)⟩
      exact ⟨_, _, n + 1, updN sg n a, rfl, rfl, rfl, key f hf, key f' hf'⟩
theorem t_wish {S : Nat → Nat → Nat} (ok : okS S) {vw vk vr vp vb vi vl vg vo : Nat → Int32} {vwc vsc : Int32} {mw mkd mr mp mb mi ml mg mo : Nat → Int32} {mwc msc : Int32} (hX : XA S vw vk vr vp vb vi vwc vl vg vo vsc) (hM : MA S mw mkd mr mp mb mi mwc ml mg mo msc) (p0 : Int32) :
    ∃ o o' S', f_X4_wish vi vwc p0 = some o ∧ f_X5_wish mi mwc p0 = some o' ∧ o.1 = o'.1 ∧ okS S' ∧ XA S' vw vk vr vp vb o.2.1 o.2.2 vl vg vo vsc ∧ MA S' mw mkd mr mp mb o'.2.1 o'.2.2 ml mg mo msc := by
  have e2 : f_X5_in p0.toInt64 0 4095 = f_X4_isSet p0 := in_eq (by decide) (by decide)
  have hX0 := hX
  have hM0 := hM
  obtain ⟨x0, x1, x2, x3, x4, x5, rfl, x7, x8, x9, x10⟩ := hX
  obtain ⟨y0, y1, y2, y3, y4, y5, rfl, y7, y8, y9, y10⟩ := hM
  have ok0 := ok
  obtain ⟨k0, k1, k2, k3, k4, k5, k6, k7, k8, k9, k10⟩ := ok
  unfold f_X4_wish f_X5_wish
  simp only [bd_eq, e2]
  rcases isSet_N p0 with h | ⟨h, a, ha, rfl⟩
  · refine ⟨(-2, vi, nI (S 9 0)), (-2, mi, nI (S 9 0)), S, ?_, ?_, rfl, ok0, hX0, hM0⟩ <;> rw [if_pos h]
  · rw [h, if_neg one_ne, if_neg one_ne]
    by_cases e : S 9 0 = 8
    · refine ⟨(-4, vi, nI (S 9 0)), (-4, mi, nI (S 9 0)), S, ?_, ?_, rfl, ok0, hX0, hM0⟩
      · rw [e, if_pos (by decide)]
      · rw [e, if_pos (by decide)]
    · have h1 : f_X4_isWithin (nI (S 9 0)) 0 7 = 1 := wi_1 (lo := 0) (hi := 7) (by omega) (by omega) (by decide)
      have h2 : ¬ nI (S 9 0) = 8 := fun q => e ((nI_eq (b := 8) (by omega) (by decide)).mp q)
      rw [h1, if_neg one_ne, if_neg h2, chk_nI _ (by omega) (by decide), chk_nI _ (by omega) (by decide)]
      refine ⟨_, _, setS (setS S 5 (updN (S 5) (S 9 0) a)) 9 (updN (S 9) 0 (S 9 0 + 1)), rfl, rfl, rfl, ?_, ?_, ?_⟩
      · exact ⟨k0, k1, k2, k3, k4, upd_lt k5 ha, k6, k7, k8, by show S 9 0 + 1 ≤ 8; omega, k10⟩
      · exact ⟨x0, x1, x2, x3, x4, x5.upd (by omega), nI_1 _, x7, x8, x9, x10⟩
      · exact ⟨y0, y1, y2, y3, y4, y5.upd (by omega), nI_1 _, y7, y8, y9, y10⟩
theorem t_unwish {S : Nat → Nat → Nat} (ok : okS S) {vw vk vr vp vb vi vl vg vo : Nat → Int32} {vwc vsc : Int32} {mw mkd mr mp mb mi ml mg mo : Nat → Int32} {mwc msc : Int32} (hX : XA S vw vk vr vp vb vi vwc vl vg vo vsc) (hM : MA S mw mkd mr mp mb mi mwc ml mg mo msc) :
    ∃ S', (f_X4_unwish vwc).1 = (f_X5_unwish mwc).1 ∧ okS S' ∧ XA S' vw vk vr vp vb vi (f_X4_unwish vwc).2 vl vg vo vsc ∧ MA S' mw mkd mr mp mb mi (f_X5_unwish mwc).2 ml mg mo msc := by
  obtain ⟨x0, x1, x2, x3, x4, x5, x6, x7, x8, x9, x10⟩ := hX
  obtain ⟨y0, y1, y2, y3, y4, y5, y6, y7, y8, y9, y10⟩ := hM
  obtain ⟨k0, k1, k2, k3, k4, k5, k6, k7, k8, k9, k10⟩ := ok
  exact ⟨setS S 9 (updN (S 9) 0 0), by show vwc = mwc; rw [x6, y6], ⟨k0, k1, k2, k3, k4, k5, k6, k7, k8, Nat.zero_le 8, k10⟩, ⟨x0, x1, x2, x3, x4, x5, rfl, x7, x8, x9, x10⟩, ⟨y0, y1, y2, y3, y4, y5, rfl, y7, y8, y9, y10⟩⟩
theorem t_forget {S : Nat → Nat → Nat} (ok : okS S) {vw vk vr vp vb vi vl vg vo : Nat → Int32} {vwc vsc : Int32} {mw mkd mr mp mb mi ml mg mo : Nat → Int32} {mwc msc : Int32} (hX : XA S vw vk vr vp vb vi vwc vl vg vo vsc) (hM : MA S mw mkd mr mp mb mi mwc ml mg mo msc) :
    ∃ S', (f_X4_forget vsc).1 = (f_X5_forget msc).1 ∧ okS S' ∧ XA S' vw vk vr vp vb vi vwc vl vg vo (f_X4_forget vsc).2 ∧ MA S' mw mkd mr mp mb mi mwc ml mg mo (f_X5_forget msc).2 := by
  obtain ⟨x0, x1, x2, x3, x4, x5, x6, x7, x8, x9, x10⟩ := hX
  obtain ⟨y0, y1, y2, y3, y4, y5, y6, y7, y8, y9, y10⟩ := hM
  obtain ⟨k0, k1, k2, k3, k4, k5, k6, k7, k8, k9, k10⟩ := ok
  exact ⟨setS S 9 (updN (S 9) 1 0), by show vsc = msc; rw [x10, y10], ⟨k0, k1, k2, k3, k4, k5, k6, k7, k8, k9, Nat.zero_le 6⟩, ⟨x0, x1, x2, x3, x4, x5, x6, x7, x8, x9, rfl⟩, ⟨y0, y1, y2, y3, y4, y5, y6, y7, y8, y9, rfl⟩⟩
theorem t_seen {S : Nat → Nat → Nat} (ok : okS S) {vw vk vr vp vb vi vl vg vo : Nat → Int32} {vwc vsc : Int32} {mw mkd mr mp mb mi ml mg mo : Nat → Int32} {mwc msc : Int32} (hX : XA S vw vk vr vp vb vi vwc vl vg vo vsc) (hM : MA S mw mkd mr mp mb mi mwc ml mg mo msc) (p0 p1 p2 : Int32) :
    ∃ o o' S', f_X4_seen vl vg vo vsc p0 p1 p2 = some o ∧ f_X5_seen ml mg mo msc p0 p1 p2 = some o' ∧ o.1 = o'.1 ∧ okS S' ∧ XA S' vw vk vr vp vb vi vwc o.2.1 o.2.2.1 o.2.2.2.1 o.2.2.2.2 ∧ MA S' mw mkd mr mp mb mi mwc o'.2.1 o'.2.2.1 o'.2.2.2.1 o'.2.2.2.2 := by
  have e0 : f_X5_in p0.toInt64 0 4095 = f_X4_isSet p0 := in_eq (by decide) (by decide)
  have e1 : f_X5_in p1.toInt64 0 4095 = f_X4_isSet p1 := in_eq (by decide) (by decide)
  have e2 : f_X5_in p2.toInt64 0 2 = f_X4_isWithin p2 0 2 := in_eq (by decide) (by decide)
  have hX0 := hX
  have hM0 := hM
  obtain ⟨x0, x1, x2, x3, x4, x5, x6, x7, x8, x9, rfl⟩ := hX
  obtain ⟨y0, y1, y2, y3, y4, y5, y6, y7, y8, y9, rfl⟩ := hM
  have ok0 := ok
  obtain ⟨k0, k1, k2, k3, k4, k5, k6, k7, k8, k9, k10⟩ := ok
  unfold f_X4_seen f_X5_seen
  simp only [bd_eq, e0, e1, e2]
  rcases isSet_N p0 with h | ⟨h, a, ha, rfl⟩
  · refine ⟨(-2, vl, vg, vo, nI (S 9 1)), (-2, ml, mg, mo, nI (S 9 1)), S, ?_, ?_, rfl, ok0, hX0, hM0⟩ <;> rw [if_pos h]
  · rw [h, if_neg one_ne, if_neg one_ne]
    rcases isSet_N p1 with h1 | ⟨h1, b, hb, rfl⟩
    · refine ⟨(-2, vl, vg, vo, nI (S 9 1)), (-2, ml, mg, mo, nI (S 9 1)), S, ?_, ?_, rfl, ok0, hX0, hM0⟩ <;> rw [if_pos h1]
    · rw [h1, if_neg one_ne, if_neg one_ne]
      rcases wi_L p2 0 2 0 2 rfl rfl (by decide) (by decide) with h2 | ⟨h2, d, -, hd, rfl⟩
      · refine ⟨(-2, vl, vg, vo, nI (S 9 1)), (-2, ml, mg, mo, nI (S 9 1)), S, ?_, ?_, rfl, ok0, hX0, hM0⟩ <;> rw [if_pos h2]
      · rw [h2, if_neg one_ne, if_neg one_ne, ob_some (ones_N ha), ob_some (ones_N hb), bitCount_N ha, bitCount_N hb]
        by_cases c1 : nI (pc a) = nI (pc b)
        · rw [if_pos c1, if_pos c1]
          by_cases c2 : nI a &&& nI b = 0
          · rw [if_pos c2, if_pos c2]
            by_cases e : S 9 1 = 6
            · refine ⟨(-4, vl, vg, vo, nI (S 9 1)), (-4, ml, mg, mo, nI (S 9 1)), S, ?_, ?_, rfl, ok0, hX0, hM0⟩
              · rw [e, if_pos (by decide)]
              · rw [e, if_pos (by decide)]
            · have g1 : f_X4_isWithin (nI (S 9 1)) 0 5 = 1 := wi_1 (lo := 0) (hi := 5) (by omega) (by omega) (by decide)
              have g2 : ¬ nI (S 9 1) = 6 := fun q => e ((nI_eq (b := 6) (by omega) (by decide)).mp q)
              rw [g1, if_neg one_ne, if_neg g2, chk_nI _ (by omega) (by decide), chk_nI _ (by omega) (by decide)]
              refine ⟨_, _, setS (setS (setS (setS S 6 (updN (S 6) (S 9 1) a)) 7 (updN (S 7) (S 9 1) b)) 8 (updN (S 8) (S 9 1) d)) 9 (updN (S 9) 1 (S 9 1 + 1)), rfl, rfl, rfl, ?_, ?_, ?_⟩
              · exact ⟨k0, k1, k2, k3, k4, k5, upd_lt k6 ha, upd_lt k7 hb, upd_le k8 hd, k9, by show S 9 1 + 1 ≤ 6; omega⟩
              · exact ⟨x0, x1, x2, x3, x4, x5, x6, x7.upd (by omega), x8.upd (by omega), x9.upd (by omega), nI_1 _⟩
              · exact ⟨y0, y1, y2, y3, y4, y5, y6, y7.upd (by omega), y8.upd (by omega), y9.upd (by omega), nI_1 _⟩
          · refine ⟨(-2, vl, vg, vo, nI (S 9 1)), (-2, ml, mg, mo, nI (S 9 1)), S, ?_, ?_, rfl, ok0, hX0, hM0⟩ <;> rw [if_neg c2]
        · refine ⟨(-2, vl, vg, vo, nI (S 9 1)), (-2, ml, mg, mo, nI (S 9 1)), S, ?_, ?_, rfl, ok0, hX0, hM0⟩ <;> rw [if_neg c1]
theorem t_synonyms (p0 p1 p2 p3 : Int32) : ∃ o, f_X4_synonyms p0 p1 p2 p3 = some o ∧ f_X5_synonyms p0 p1 p2 p3 = some o := by
  have e0 : f_X5_in p0.toInt64 0 40 = f_X4_isWithin p0 0 40 := in_eq (by decide) (by decide)
  have e1 : f_X5_in p1.toInt64 0 20 = f_X4_isWithin p1 0 20 := in_eq (by decide) (by decide)
  have e3 : f_X5_in p3.toInt64 (-1) 99 = f_X4_isWithin p3 (-1) 99 := in_eq (by decide) (by decide)
  unfold f_X4_synonyms f_X5_synonyms
  simp only [bd_eq, e0, e1, e3]
  rcases wi_cases p0 0 40 with ⟨h, -⟩ | ⟨h, -⟩
  · refine ⟨-2, ?_, ?_⟩ <;> rw [if_pos h]
  · rw [h, if_neg one_ne, if_neg one_ne]
    rcases wi_L p1 0 20 0 20 rfl rfl (by decide) (by decide) with h1 | ⟨h1, c, -, hc, rfl⟩
    · refine ⟨-2, ?_, ?_⟩ <;> rw [if_pos h1]
    · rw [h1, if_neg one_ne, if_neg one_ne]
      have e2 : f_X5_in p2.toInt64 ((nI c).toInt64 + 1) 40 = f_X4_isWithin p2 (nI c + 1) 40 := in_eq (by
        rw [nI_l (by omega), lN_1, nI_1, lN_toInt (by omega), nI_toInt (by omega)]) (by decide)
      rw [e2]
      rcases wi_cases p2 (nI c + 1) 40 with ⟨h2, -⟩ | ⟨h2, -⟩
      · refine ⟨-2, ?_, ?_⟩ <;> rw [if_pos h2]
      · rw [h2, if_neg one_ne, if_neg one_ne]
        rcases wi_cases p3 (-1) 99 with ⟨h3, -⟩ | ⟨h3, h4, h5⟩
        · refine ⟨-2, ?_, ?_⟩ <;> rw [if_pos h3]
        · rw [h3, if_neg one_ne, if_neg one_ne]
          by_cases c1 : p3 = -1
          · refine ⟨p2 - nI c, ?_, ?_⟩ <;> rw [if_pos c1]
          · rw [if_neg c1, if_neg c1]
            have h6 : ¬ p3.toInt = -1 := fun q => c1 (Int32.toInt_inj.mp q)
            have h4' : -1 ≤ p3.toInt := h4
            have h5' : p3.toInt ≤ 99 := h5
            obtain ⟨N, hN, rfl, eN⟩ := nI_ofInt (x := p3) (by omega)
            have es : s_X4_synonyms_74 (nI c) p2 (nI N) = s_X5_synonyms_73 (nI c) p2 (nI N) := rfl
            rw [es]
            obtain ⟨r, g1, -⟩ := wh_inv (step := s_X5_synonyms_73 (nI c) p2 (nI N)) (emb := fun j (t : Int32) => (t, nI j)) (P := fun _ _ => True) (Q := fun _ => True) N (fun j t hj _ => Or.inl (by
              have hc : ¬ nI N ≤ nI j := nI_ge hj (by omega)
              unfold s_X5_synonyms_73
              dsimp only
              rw [if_neg hc]
              by_cases q : t - 1 ≤ nI c
              · exact ⟨p2, by rw [if_pos q, nI_1], trivial⟩
              · exact ⟨t - 1, by rw [if_neg q, nI_1], trivial⟩)) (fun t _ => ⟨(t, nI N), by
              unfold s_X5_synonyms_73
              dsimp only
              rw [if_pos (nI_le (Nat.le_refl N) (by omega))], trivial⟩) (fuel := 5000) (j0 := 0) (t0 := p0) (by omega) (by omega) trivial
            exact ⟨r.1, ob_some g1, ob_some g1⟩
