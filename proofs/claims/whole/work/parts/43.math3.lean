/-! rhymes: the class's masks against the model's numbers -/
theorem mk_tb (m : Nat → Nat) (i j : Nat) : (mk m i).testBit j = (decide (j < 12) && decide (m j = m i)) := kset_tb m (m i) 12 j
theorem mk_lt (m : Nat → Nat) (i : Nat) : mk m i < 4096 := kset_lt m (m i) (Nat.le_refl 12)
theorem tb_ge {a j : Nat} (ha : a < 4096) (hj : 12 ≤ j) : a.testBit j = false := Nat.testBit_lt_two_pow (by have : (2 : Nat) ^ 12 ≤ 2 ^ j := Nat.pow_le_pow_right (by decide) hj; omega)
theorem eq_tb {a b : Nat} (ha : a < 4096) (hb : b < 4096) (h : ∀ j, j < 12 → a.testBit j = b.testBit j) : a = b := by
  apply Nat.eq_of_testBit_eq
  intro j
  by_cases hj : j < 12
  · exact h j hj
  · rw [tb_ge ha (by omega), tb_ge hb (by omega)]
theorem p2_tb {i j : Nat} : (2 ^ i).testBit j = decide (i = j) := Nat.testBit_two_pow
/-- the count of a set, one taken away -/
theorem pc_an1 {a i : Nat} (ha : a < 4096) (hi : i < 12) (h : a.testBit i = true) : pc (an a (2 ^ i)) + 1 = pc a := by
  have key : ∀ n, n ≤ 12 → sm (fun j => if (an a (2 ^ i)).testBit j = true then 1 else 0) n + (if i < n then 1 else 0) = sm (fun j => if a.testBit j = true then 1 else 0) n := by
    intro n
    induction n with
    | zero => intro _; rfl
    | succ n ih =>
      intro hn
      have ih := ih (by omega)
      rw [sm_succ, sm_succ, ← ih, an_tb ha, p2_tb]
      by_cases e : i = n
      · subst e
        simp [h]
      · by_cases q : i < n
        · have q2 : i < n + 1 := by omega
          simp [e, q, q2]
          omega
        · have q2 : ¬ i < n + 1 := by omega
          simp [e, q, q2]
  have := key 12 (Nat.le_refl 12)
  rw [if_pos hi] at this
  exact this
/-- the words that rhyme with one, without itself -/
theorem rhymesOf_N {vr : Nat → Int32} {m : Nat → Nat} {i : Nat} (h : ag 12 vr m) (hm : ∀ j, m j < 12) (hi : i < 12) : f_X5_rhymesOf vr (nI i) = some (nI (an (mk m i) (2 ^ i))) := by
  obtain ⟨r, h1, h2⟩ := wh_inv (step := s_X5_rhymesOf_4 vr (nI i)) (emb := fun j (t : Nat) => (nI t, nI j)) (P := fun j t => t < 4096 ∧ ∀ k, t.testBit k = (decide (k < j) && (decide (m k = m i) && !decide (i = k)))) (Q := fun r => r.1 = nI (an (mk m i) (2 ^ i))) 12 (fun j t hj ht => by
    have hc : ¬ (12 : Int32) ≤ nI j := nI_ge hj (by decide)
    have hmj := hm j
    have hmi := hm i
    have z0 : nI t ||| 0 = nI t := by
      have := fa_or t 0
      rw [Nat.or_zero] at this
      exact this
    left
    unfold s_X5_rhymesOf_4
    dsimp only
    rw [if_neg hc]
    by_cases e : j = i
    · subst e
      refine ⟨t, by rw [if_pos rfl, nI_1, z0], ht.1, fun k => ?_⟩
      rw [ht.2 k]
      by_cases e : j = k
      · subst e; simp
      · have : (k < j + 1) = (k < j) := by
          have : ¬ k = j := fun q => e q.symm
          apply propext; omega
        simp only [this]
    · rw [if_neg (fun q => e ((nI_eq (by omega) (by omega)).mp q)), chk_nI _ hj (by decide), chk_nI _ hi (by decide), h.at hj (by decide), h.at hi (by decide), one_shl (by omega), fa_or, nI_1, z0]
      by_cases c : m j = m i
      · refine ⟨t ||| 2 ^ j, by rw [if_pos (by rw [c])], or_lt ht.1 (p2_lt hj), fun k => ?_⟩
        rw [Nat.testBit_or, ht.2 k, p2_tb]
        by_cases q : j = k
        · subst q
          have e' : ¬ i = j := fun q => e q.symm
          simp [c, e']
        · have : (k < j + 1) = (k < j) := by
            have : ¬ k = j := fun q2 => q q2.symm
            apply propext; omega
          simp [this, q]
      · refine ⟨t, by rw [if_neg (fun q => c ((nI_eq (by omega) (by omega)).mp q))], ht.1, fun k => ?_⟩
        rw [ht.2 k]
        by_cases q : j = k
        · subst q; simp [c]
        · have : (k < j + 1) = (k < j) := by
            have : ¬ k = j := fun q2 => q q2.symm
            apply propext; omega
          simp only [this]) (fun t ht => ⟨(nI t, nI 12), by
    unfold s_X5_rhymesOf_4
    dsimp only
    rw [if_pos (by decide)], by
    dsimp only
    congr 1
    apply eq_tb ht.1 (an_lt (mk_lt m i))
    intro k hk
    rw [ht.2 k, an_tb (mk_lt m i), mk_tb, p2_tb, Bool.and_assoc]⟩) (fuel := 5000) (j0 := 0) (t0 := 0) (by decide) (by decide) ⟨by decide, fun k => by simp⟩
  refine (ob_some h1).trans ?_
  rw [h2]
theorem mk_self (m : Nat → Nat) {i : Nat} (hi : i < 12) : (mk m i).testBit i = true := by
  rw [mk_tb]
  simp [hi]
/-- two rhymes joined: the model's numbers -/
def jn (m : Nat → Nat) (one other : Nat) : Nat → Nat := fun j => if m j = m other then m one else m j
theorem jn_lt {m : Nat → Nat} {one other : Nat} (hm : ∀ j, m j < 12) : ∀ j, jn m one other j < 12 := fun j => by
  unfold jn
  split
  · exact hm one
  · exact hm j
theorem join_X {vr : Nat → Int32} {m : Nat → Nat} {i k : Nat} (h : ag 12 vr (mk m)) (hi : i < 12) (hk : k < 12) : ∃ o, f_X3_joinRhymes vr (nI i) (nI k) = some o ∧ ag 12 o (mk (jn m i k)) := by
  have hJ : mk m i ||| mk m k < 4096 := or_lt (mk_lt m i) (mk_lt m k)
  have tb : ∀ j, j < 12 → (mk m i ||| mk m k).testBit j = (decide (m j = m i) || decide (m j = m k)) := fun j hj => by
    rw [Nat.testBit_or, mk_tb, mk_tb]
    simp [hj]
  have hin : ∀ j, j < 12 → (mk m i ||| mk m k).testBit j = true → mk (jn m i k) j = mk m i ||| mk m k := fun j hj hb => by
    apply eq_tb (mk_lt _ _) hJ
    intro x hx
    rw [tb j hj] at hb
    rw [mk_tb, tb x hx]
    simp only [Bool.or_eq_true, decide_eq_true_eq] at hb
    unfold jn
    simp only [hx, decide_true, Bool.true_and]
    by_cases a1 : m x = m k <;> by_cases a2 : m j = m k <;> by_cases a3 : m x = m i <;> by_cases a4 : m j = m i <;> simp_all
  have hout : ∀ j, j < 12 → ¬ (mk m i ||| mk m k).testBit j = true → mk (jn m i k) j = mk m j := fun j hj hb => by
    apply eq_tb (mk_lt _ _) (mk_lt _ _)
    intro x hx
    rw [tb j hj] at hb
    rw [mk_tb, mk_tb]
    simp only [Bool.or_eq_true, decide_eq_true_eq, not_or] at hb
    unfold jn
    simp only [hx, decide_true, Bool.true_and]
    rw [if_neg hb.2]
    by_cases a1 : m x = m k
    · rw [if_pos a1]
      have : ¬ m i = m j := fun q => hb.1 q.symm
      have b : ¬ m x = m j := fun q => hb.2 (by rw [← q, a1])
      simp [this, b]
    · rw [if_neg a1]
  obtain ⟨r, h1, h2⟩ := wh_inv (step := s_X3_joinRhymes_32 vr (nI i) (nI k)) (emb := fun j (t : Nat → Int32) => (nI j, t)) (P := fun j t => (∀ x, x < j → t x = nI (mk (jn m i k) x)) ∧ ∀ x, x < 12 → j ≤ x → t x = nI (mk m x)) (Q := fun r => ag 12 r.2 (mk (jn m i k))) 12 (fun j t hj ht => by
    have hc : ¬ (12 : Int32) ≤ nI j := nI_ge hj (by decide)
    left
    unfold s_X3_joinRhymes_32
    dsimp only
    rw [if_neg hc, bd_eq, h.at hi (by decide), h.at hk (by decide), fa_or, isIn_N (by omega) (by omega)]
    by_cases hb : (mk m i ||| mk m k).testBit j = true
    · rw [if_pos hb, if_neg one_ne, chk_nI _ hj (by decide), nI_1, nI_clamp (by omega)]
      refine ⟨_, rfl, fun x hx => ?_, fun x hx hx2 => ?_⟩
      · by_cases q : x = j
        · subst q; rw [pk_us, hin x hj hb]
        · rw [pk_un q]; exact ht.1 x (by omega)
      · rw [pk_un (by omega)]; exact ht.2 x hx (by omega)
    · rw [if_neg hb, if_pos rfl, nI_1]
      refine ⟨t, rfl, fun x hx => ?_, fun x hx hx2 => ht.2 x hx (by omega)⟩
      by_cases q : x = j
      · subst q; rw [ht.2 x hj (Nat.le_refl x), hout x hj hb]
      · exact ht.1 x (by omega)) (fun t ht => ⟨(nI 12, t), by
    unfold s_X3_joinRhymes_32
    dsimp only
    rw [if_pos (by decide)], ht.1⟩) (fuel := 5000) (j0 := 0) (t0 := vr) (by decide) (by decide) ⟨fun x hx => absurd hx (Nat.not_lt_zero x), fun x hx _ => h x hx⟩
  refine ⟨r.2, ?_, h2⟩
  unfold f_X3_joinRhymes
  rw [bd_eq, isWord_1 hi, if_neg one_ne, bd_eq, isWord_1 hk, if_neg one_ne, chk_nI _ hi (by decide), chk_nI _ hk (by decide)]
  exact ob_some h1
theorem join_M {vr : Nat → Int32} {m : Nat → Nat} {i k : Nat} (h : ag 12 vr m) (hm : ∀ j, m j < 12) (hi : i < 12) (hk : k < 12) : ∃ r, wh (s_X5_rhyme_39 vr (nI i) (nI k)) 5000 (0, vr) = some r ∧ ag 12 r.2 (jn m i k) := by
  exact wh_inv (step := s_X5_rhyme_39 vr (nI i) (nI k)) (emb := fun j (t : Nat → Int32) => (nI j, t)) (P := fun j t => (∀ x, x < j → t x = nI (jn m i k x)) ∧ ∀ x, x < 12 → j ≤ x → t x = nI (m x)) (Q := fun r => ag 12 r.2 (jn m i k)) 12 (fun j t hj ht => by
    have hc : ¬ (12 : Int32) ≤ nI j := nI_ge hj (by decide)
    have hmj := hm j
    have hmk := hm k
    have hd : jn m i k j = if m j = m k then m i else m j := rfl
    left
    unfold s_X5_rhyme_39
    dsimp only
    rw [if_neg hc, chk_nI _ hj (by decide), nI_1, nI_clamp (n := j) (by omega)]
    have tj := ht.2 j hj (Nat.le_refl j)
    have vk := h.at hk (by decide)
    have vi := h.at hi (by decide)
    by_cases q : m j = m k
    · rw [if_pos (show t j = vr (nI k).toNatClampNeg by rw [tj, vk, q])]
      refine ⟨_, rfl, fun x hx => ?_, fun x hx hx2 => ?_⟩
      · by_cases e : x = j
        · subst e; rw [pk_us, hd, if_pos q, vi]
        · rw [pk_un e]; exact ht.1 x (by omega)
      · rw [pk_un (by omega)]; exact ht.2 x hx (by omega)
    · rw [if_neg (show ¬ t j = vr (nI k).toNatClampNeg from fun z => by rw [tj, vk] at z; exact q ((nI_eq (by omega) (by omega)).mp z))]
      refine ⟨_, rfl, fun x hx => ?_, fun x hx hx2 => ?_⟩
      · by_cases e : x = j
        · subst e; rw [pk_us, hd, if_neg q, tj]
        · rw [pk_un e]; exact ht.1 x (by omega)
      · rw [pk_un (by omega)]; exact ht.2 x hx (by omega)) (fun t ht => ⟨(nI 12, t), by
    unfold s_X5_rhyme_39
    dsimp only
    rw [if_pos (by decide)], ht.1⟩) (fuel := 5000) (j0 := 0) (t0 := vr) (by decide) (by decide) ⟨fun x hx => absurd hx (Nat.not_lt_zero x), fun x hx _ => h x hx⟩
theorem t_rhyme {S : Nat → Nat → Nat} (ok : okS S) {vw vk vr vp vb vi vl vg vo : Nat → Int32} {vwc vsc : Int32} {mw mkd mr mp mb mi ml mg mo : Nat → Int32} {mwc msc : Int32} (hX : XA S vw vk vr vp vb vi vwc vl vg vo vsc) (hM : MA S mw mkd mr mp mb mi mwc ml mg mo msc) (p0 p1 : Int32) :
    ∃ o o' S', f_X4_rhyme vr p0 p1 = some o ∧ f_X5_rhyme mr p0 p1 = some o' ∧ o.1 = o'.1 ∧ okS S' ∧ XA S' vw vk o.2 vp vb vi vwc vl vg vo vsc ∧ MA S' mw mkd o'.2 mp mb mi mwc ml mg mo msc := by
  have hX0 := hX
  have hM0 := hM
  have ok0 := ok
  obtain ⟨x0, x1, x2, x3⟩ := hX
  obtain ⟨y0, y1, y2, y3⟩ := hM
  obtain ⟨k0, k1, k2, k3⟩ := ok
  unfold f_X4_rhyme f_X5_rhyme
  simp only [bd_eq, isWord_eq]
  rcases isWord_N p0 with h | ⟨h, i, hi, rfl⟩
  · refine ⟨(-1, vr), (-1, mr), S, ?_, ?_, rfl, ok0, hX0, hM0⟩ <;> rw [if_pos h]
  · rw [h, if_neg one_ne, if_neg one_ne]
    rcases isWord_N p1 with h1 | ⟨h1, k, hk, rfl⟩
    · refine ⟨(-1, vr), (-1, mr), S, ?_, ?_, rfl, ok0, hX0, hM0⟩ <;> rw [if_pos h1]
    · rw [h1, if_neg one_ne, if_neg one_ne]
      by_cases e : nI i = nI k
      · refine ⟨(-1, vr), (-1, mr), S, ?_, ?_, rfl, ok0, hX0, hM0⟩ <;> rw [if_pos e]
      · obtain ⟨o, a1, a2⟩ := join_X x2 hi hk
        obtain ⟨r, b1, b2⟩ := join_M y2 k2 hi hk
        have hj := jn_lt (one := i) (other := k) k2
        rw [if_neg e, if_neg e, ob_some a1, chk_nI _ hi (by decide), a2.at hi (by decide), bitCount_N (mk_lt _ _), chk_nI _ hk (by decide), chk_nI _ hi (by decide), ob_some b1, ob_some (rhymesOf_N b2 hj hi), ob_some (ones_N (an_lt (mk_lt _ _)))]
        refine ⟨_, _, setS S 2 (jn (S 2) i k), rfl, rfl, ?_, ?_, ?_, ?_⟩
        · show nI (pc _) - 1 = nI (pc _)
          rw [← pc_an1 (mk_lt _ _) hi (mk_self _ hi), nI_pred]
        · exact ⟨k0, k1, hj, k3⟩
        · exact ⟨x0, x1, a2, x3⟩
        · exact ⟨y0, y1, b2, y3⟩
