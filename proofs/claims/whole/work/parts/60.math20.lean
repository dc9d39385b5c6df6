/-! images: the one row that is kept, piece by piece -/
theorem pass_W {kept : Nat → Int32} {c : Nat} (hc : c < 180) (v : Int32) : f_X5_pass kept (nI c) 1 v = some (v, upd kept c v, nI (c + 1)) := by
  unfold f_X5_pass
  rw [if_neg one_ne, chk_nI _ hc (by decide), nI_clamp (by omega), nI_1]
theorem pass_R {kept : Nat → Int32} {c : Nat} (hc : c < 180) (v : Int32) : f_X5_pass kept (nI c) 0 v = some (kept c, upd kept c (kept c), nI (c + 1)) := by
  unfold f_X5_pass
  rw [if_pos rfl, chk_nI _ hc (by decide), nI_clamp (by omega), nI_1]
theorem upd_same (f : Nat → Int32) (k : Nat) : ∀ i, upd f k (f k) i = f i := fun i => by
  by_cases e : i = k
  · subst e; rw [pk_us]
  · rw [pk_un e]
theorem pw_weight {row kept : Nat → Int32} {c : Nat} (hc : c + 12 ≤ 180) : ∃ o, f_X5_passRow_weight row kept (nI c) 1 12 = some o ∧ (∀ i, o.1 i = row i) ∧ (∀ i, i < 12 → o.2.1 (c + i) = row i) ∧ (∀ i, (i < c ∨ c + 12 ≤ i) → o.2.1 i = kept i) ∧ o.2.2 = nI (c + 12) := by
  obtain ⟨r, h1, h2⟩ := wh_inv (step := s_X5_passRow_weight_2 1 12) (emb := fun j (t : (Nat → Int32) × (Nat → Int32)) => (nI j, t.1, nI (c + j), t.2)) (P := fun j t => (∀ i, t.2 i = row i) ∧ (∀ i, i < j → t.1 (c + i) = row i) ∧ ∀ i, (i < c ∨ c + j ≤ i) → t.1 i = kept i) (Q := fun r => (∀ i, r.2.2.2 i = row i) ∧ (∀ i, i < 12 → r.2.1 (c + i) = row i) ∧ (∀ i, (i < c ∨ c + 12 ≤ i) → r.2.1 i = kept i) ∧ r.2.2.1 = nI (c + 12)) 12 (fun j t hj ht => by
    have hlt : ¬ (12 : Int32) ≤ nI j := nI_ge hj (by decide)
    obtain ⟨a1, a2, a3⟩ := ht
    refine Or.inl ⟨(upd t.1 (c + j) (t.2 j), upd t.2 j (t.2 j)), ?_, ?_, ?_, ?_⟩
    · unfold s_X5_passRow_weight_2
      dsimp only
      rw [if_neg hlt, chk_nI _ hj (by decide), nI_clamp (show j < 2 ^ 31 by omega)]
      refine (ob_some (pass_W (by omega) _)).trans ?_
      rw [nI_1]
      rfl
    · intro i
      dsimp only
      rw [upd_same]
      exact a1 i
    · intro i hi
      dsimp only
      by_cases e : i = j
      · subst e
        rw [pk_us]
        exact a1 i
      · rw [pk_un (by omega)]
        exact a2 i (by omega)
    · intro i hi
      dsimp only
      rw [pk_un (by omega)]
      exact a3 i (by omega)) (fun t ht => by
    obtain ⟨a1, a2, a3⟩ := ht
    refine ⟨(nI 12, t.1, nI (c + 12), t.2), ?_, a1, a2, a3, rfl⟩
    unfold s_X5_passRow_weight_2
    dsimp only
    rw [if_pos (by decide)]) (fuel := 5000) (j0 := 0) (t0 := (kept, row)) (by decide) (by decide) ⟨fun _ => rfl, fun i hi => absurd hi (Nat.not_lt_zero i), fun _ _ => rfl⟩
  obtain ⟨a1, a2, a3, a4⟩ := h2
  exact ⟨(r.2.2.2, r.2.1, r.2.2.1), (ob_some h1).trans rfl, a1, a2, a3, a4⟩
theorem pr_weight {row kept : Nat → Int32} {c : Nat} (hc : c + 12 ≤ 180) : ∃ o, f_X5_passRow_weight row kept (nI c) 0 12 = some o ∧ (∀ i, i < 12 → o.1 i = kept (c + i)) ∧ (∀ i, o.2.1 i = kept i) ∧ o.2.2 = nI (c + 12) := by
  obtain ⟨r, h1, h2⟩ := wh_inv (step := s_X5_passRow_weight_2 0 12) (emb := fun j (t : (Nat → Int32) × (Nat → Int32)) => (nI j, t.1, nI (c + j), t.2)) (P := fun j t => (∀ i, i < j → t.2 i = kept (c + i)) ∧ ∀ i, t.1 i = kept i) (Q := fun r => (∀ i, i < 12 → r.2.2.2 i = kept (c + i)) ∧ (∀ i, r.2.1 i = kept i) ∧ r.2.2.1 = nI (c + 12)) 12 (fun j t hj ht => by
    have hlt : ¬ (12 : Int32) ≤ nI j := nI_ge hj (by decide)
    obtain ⟨a1, a2⟩ := ht
    refine Or.inl ⟨(upd t.1 (c + j) (t.1 (c + j)), upd t.2 j (t.1 (c + j))), ?_, ?_, ?_⟩
    · unfold s_X5_passRow_weight_2
      dsimp only
      rw [if_neg hlt, chk_nI _ hj (by decide), nI_clamp (show j < 2 ^ 31 by omega)]
      refine (ob_some (pass_R (by omega) _)).trans ?_
      rw [nI_1]
      rfl
    · intro i hi
      dsimp only
      by_cases e : i = j
      · subst e
        rw [pk_us]
        exact a2 _
      · rw [pk_un e]
        exact a1 i (by omega)
    · intro i
      dsimp only
      rw [upd_same]
      exact a2 i) (fun t ht => by
    obtain ⟨a1, a2⟩ := ht
    refine ⟨(nI 12, t.1, nI (c + 12), t.2), ?_, a1, a2, rfl⟩
    unfold s_X5_passRow_weight_2
    dsimp only
    rw [if_pos (by decide)]) (fuel := 5000) (j0 := 0) (t0 := (kept, row)) (by decide) (by decide) ⟨fun i hi => absurd hi (Nat.not_lt_zero i), fun _ => rfl⟩
  obtain ⟨a1, a2, a3⟩ := h2
  exact ⟨(r.2.2.2, r.2.1, r.2.2.1), (ob_some h1).trans rfl, a1, a2, a3⟩
theorem pw_kind {row kept : Nat → Int32} {c : Nat} (hc : c + 12 ≤ 180) : ∃ o, f_X5_passRow_kind row kept (nI c) 1 12 = some o ∧ (∀ i, o.1 i = row i) ∧ (∀ i, i < 12 → o.2.1 (c + i) = row i) ∧ (∀ i, (i < c ∨ c + 12 ≤ i) → o.2.1 i = kept i) ∧ o.2.2 = nI (c + 12) := by
  obtain ⟨r, h1, h2⟩ := wh_inv (step := s_X5_passRow_kind_2 1 12) (emb := fun j (t : (Nat → Int32) × (Nat → Int32)) => (nI j, t.1, nI (c + j), t.2)) (P := fun j t => (∀ i, t.2 i = row i) ∧ (∀ i, i < j → t.1 (c + i) = row i) ∧ ∀ i, (i < c ∨ c + j ≤ i) → t.1 i = kept i) (Q := fun r => (∀ i, r.2.2.2 i = row i) ∧ (∀ i, i < 12 → r.2.1 (c + i) = row i) ∧ (∀ i, (i < c ∨ c + 12 ≤ i) → r.2.1 i = kept i) ∧ r.2.2.1 = nI (c + 12)) 12 (fun j t hj ht => by
    have hlt : ¬ (12 : Int32) ≤ nI j := nI_ge hj (by decide)
    obtain ⟨a1, a2, a3⟩ := ht
    refine Or.inl ⟨(upd t.1 (c + j) (t.2 j), upd t.2 j (t.2 j)), ?_, ?_, ?_, ?_⟩
    · unfold s_X5_passRow_kind_2
      dsimp only
      rw [if_neg hlt, chk_nI _ hj (by decide), nI_clamp (show j < 2 ^ 31 by omega)]
      refine (ob_some (pass_W (by omega) _)).trans ?_
      rw [nI_1]
      rfl
    · intro i
      dsimp only
      rw [upd_same]
      exact a1 i
    · intro i hi
      dsimp only
      by_cases e : i = j
      · subst e
        rw [pk_us]
        exact a1 i
      · rw [pk_un (by omega)]
        exact a2 i (by omega)
    · intro i hi
      dsimp only
      rw [pk_un (by omega)]
      exact a3 i (by omega)) (fun t ht => by
    obtain ⟨a1, a2, a3⟩ := ht
    refine ⟨(nI 12, t.1, nI (c + 12), t.2), ?_, a1, a2, a3, rfl⟩
    unfold s_X5_passRow_kind_2
    dsimp only
    rw [if_pos (by decide)]) (fuel := 5000) (j0 := 0) (t0 := (kept, row)) (by decide) (by decide) ⟨fun _ => rfl, fun i hi => absurd hi (Nat.not_lt_zero i), fun _ _ => rfl⟩
  obtain ⟨a1, a2, a3, a4⟩ := h2
  exact ⟨(r.2.2.2, r.2.1, r.2.2.1), (ob_some h1).trans rfl, a1, a2, a3, a4⟩
theorem pr_kind {row kept : Nat → Int32} {c : Nat} (hc : c + 12 ≤ 180) : ∃ o, f_X5_passRow_kind row kept (nI c) 0 12 = some o ∧ (∀ i, i < 12 → o.1 i = kept (c + i)) ∧ (∀ i, o.2.1 i = kept i) ∧ o.2.2 = nI (c + 12) := by
  obtain ⟨r, h1, h2⟩ := wh_inv (step := s_X5_passRow_kind_2 0 12) (emb := fun j (t : (Nat → Int32) × (Nat → Int32)) => (nI j, t.1, nI (c + j), t.2)) (P := fun j t => (∀ i, i < j → t.2 i = kept (c + i)) ∧ ∀ i, t.1 i = kept i) (Q := fun r => (∀ i, i < 12 → r.2.2.2 i = kept (c + i)) ∧ (∀ i, r.2.1 i = kept i) ∧ r.2.2.1 = nI (c + 12)) 12 (fun j t hj ht => by
    have hlt : ¬ (12 : Int32) ≤ nI j := nI_ge hj (by decide)
    obtain ⟨a1, a2⟩ := ht
    refine Or.inl ⟨(upd t.1 (c + j) (t.1 (c + j)), upd t.2 j (t.1 (c + j))), ?_, ?_, ?_⟩
    · unfold s_X5_passRow_kind_2
      dsimp only
      rw [if_neg hlt, chk_nI _ hj (by decide), nI_clamp (show j < 2 ^ 31 by omega)]
      refine (ob_some (pass_R (by omega) _)).trans ?_
      rw [nI_1]
      rfl
    · intro i hi
      dsimp only
      by_cases e : i = j
      · subst e
        rw [pk_us]
        exact a2 _
      · rw [pk_un e]
        exact a1 i (by omega)
    · intro i
      dsimp only
      rw [upd_same]
      exact a2 i) (fun t ht => by
    obtain ⟨a1, a2⟩ := ht
    refine ⟨(nI 12, t.1, nI (c + 12), t.2), ?_, a1, a2, rfl⟩
    unfold s_X5_passRow_kind_2
    dsimp only
    rw [if_pos (by decide)]) (fuel := 5000) (j0 := 0) (t0 := (kept, row)) (by decide) (by decide) ⟨fun i hi => absurd hi (Nat.not_lt_zero i), fun _ => rfl⟩
  obtain ⟨a1, a2, a3⟩ := h2
  exact ⟨(r.2.2.2, r.2.1, r.2.2.1), (ob_some h1).trans rfl, a1, a2, a3⟩
theorem pw_rhymes {row kept : Nat → Int32} {c : Nat} (hc : c + 12 ≤ 180) : ∃ o, f_X5_passRow_rhymes row kept (nI c) 1 12 = some o ∧ (∀ i, o.1 i = row i) ∧ (∀ i, i < 12 → o.2.1 (c + i) = row i) ∧ (∀ i, (i < c ∨ c + 12 ≤ i) → o.2.1 i = kept i) ∧ o.2.2 = nI (c + 12) := by
  obtain ⟨r, h1, h2⟩ := wh_inv (step := s_X5_passRow_rhymes_2 1 12) (emb := fun j (t : (Nat → Int32) × (Nat → Int32)) => (nI j, t.1, nI (c + j), t.2)) (P := fun j t => (∀ i, t.2 i = row i) ∧ (∀ i, i < j → t.1 (c + i) = row i) ∧ ∀ i, (i < c ∨ c + j ≤ i) → t.1 i = kept i) (Q := fun r => (∀ i, r.2.2.2 i = row i) ∧ (∀ i, i < 12 → r.2.1 (c + i) = row i) ∧ (∀ i, (i < c ∨ c + 12 ≤ i) → r.2.1 i = kept i) ∧ r.2.2.1 = nI (c + 12)) 12 (fun j t hj ht => by
    have hlt : ¬ (12 : Int32) ≤ nI j := nI_ge hj (by decide)
    obtain ⟨a1, a2, a3⟩ := ht
    refine Or.inl ⟨(upd t.1 (c + j) (t.2 j), upd t.2 j (t.2 j)), ?_, ?_, ?_, ?_⟩
    · unfold s_X5_passRow_rhymes_2
      dsimp only
      rw [if_neg hlt, chk_nI _ hj (by decide), nI_clamp (show j < 2 ^ 31 by omega)]
      refine (ob_some (pass_W (by omega) _)).trans ?_
      rw [nI_1]
      rfl
    · intro i
      dsimp only
      rw [upd_same]
      exact a1 i
    · intro i hi
      dsimp only
      by_cases e : i = j
      · subst e
        rw [pk_us]
        exact a1 i
      · rw [pk_un (by omega)]
        exact a2 i (by omega)
    · intro i hi
      dsimp only
      rw [pk_un (by omega)]
      exact a3 i (by omega)) (fun t ht => by
    obtain ⟨a1, a2, a3⟩ := ht
    refine ⟨(nI 12, t.1, nI (c + 12), t.2), ?_, a1, a2, a3, rfl⟩
    unfold s_X5_passRow_rhymes_2
    dsimp only
    rw [if_pos (by decide)]) (fuel := 5000) (j0 := 0) (t0 := (kept, row)) (by decide) (by decide) ⟨fun _ => rfl, fun i hi => absurd hi (Nat.not_lt_zero i), fun _ _ => rfl⟩
  obtain ⟨a1, a2, a3, a4⟩ := h2
  exact ⟨(r.2.2.2, r.2.1, r.2.2.1), (ob_some h1).trans rfl, a1, a2, a3, a4⟩
theorem pr_rhymes {row kept : Nat → Int32} {c : Nat} (hc : c + 12 ≤ 180) : ∃ o, f_X5_passRow_rhymes row kept (nI c) 0 12 = some o ∧ (∀ i, i < 12 → o.1 i = kept (c + i)) ∧ (∀ i, o.2.1 i = kept i) ∧ o.2.2 = nI (c + 12) := by
  obtain ⟨r, h1, h2⟩ := wh_inv (step := s_X5_passRow_rhymes_2 0 12) (emb := fun j (t : (Nat → Int32) × (Nat → Int32)) => (nI j, t.1, nI (c + j), t.2)) (P := fun j t => (∀ i, i < j → t.2 i = kept (c + i)) ∧ ∀ i, t.1 i = kept i) (Q := fun r => (∀ i, i < 12 → r.2.2.2 i = kept (c + i)) ∧ (∀ i, r.2.1 i = kept i) ∧ r.2.2.1 = nI (c + 12)) 12 (fun j t hj ht => by
    have hlt : ¬ (12 : Int32) ≤ nI j := nI_ge hj (by decide)
    obtain ⟨a1, a2⟩ := ht
    refine Or.inl ⟨(upd t.1 (c + j) (t.1 (c + j)), upd t.2 j (t.1 (c + j))), ?_, ?_, ?_⟩
    · unfold s_X5_passRow_rhymes_2
      dsimp only
      rw [if_neg hlt, chk_nI _ hj (by decide), nI_clamp (show j < 2 ^ 31 by omega)]
      refine (ob_some (pass_R (by omega) _)).trans ?_
      rw [nI_1]
      rfl
    · intro i hi
      dsimp only
      by_cases e : i = j
      · subst e
        rw [pk_us]
        exact a2 _
      · rw [pk_un e]
        exact a1 i (by omega)
    · intro i
      dsimp only
      rw [upd_same]
      exact a2 i) (fun t ht => by
    obtain ⟨a1, a2⟩ := ht
    refine ⟨(nI 12, t.1, nI (c + 12), t.2), ?_, a1, a2, rfl⟩
    unfold s_X5_passRow_rhymes_2
    dsimp only
    rw [if_pos (by decide)]) (fuel := 5000) (j0 := 0) (t0 := (kept, row)) (by decide) (by decide) ⟨fun i hi => absurd hi (Nat.not_lt_zero i), fun _ => rfl⟩
  obtain ⟨a1, a2, a3⟩ := h2
  exact ⟨(r.2.2.2, r.2.1, r.2.2.1), (ob_some h1).trans rfl, a1, a2, a3⟩
theorem pw_purse {row kept : Nat → Int32} {c : Nat} (hc : c + 4 ≤ 180) : ∃ o, f_X5_passRow_purse row kept (nI c) 1 4 = some o ∧ (∀ i, o.1 i = row i) ∧ (∀ i, i < 4 → o.2.1 (c + i) = row i) ∧ (∀ i, (i < c ∨ c + 4 ≤ i) → o.2.1 i = kept i) ∧ o.2.2 = nI (c + 4) := by
  obtain ⟨r, h1, h2⟩ := wh_inv (step := s_X5_passRow_purse_2 1 4) (emb := fun j (t : (Nat → Int32) × (Nat → Int32)) => (nI j, t.1, nI (c + j), t.2)) (P := fun j t => (∀ i, t.2 i = row i) ∧ (∀ i, i < j → t.1 (c + i) = row i) ∧ ∀ i, (i < c ∨ c + j ≤ i) → t.1 i = kept i) (Q := fun r => (∀ i, r.2.2.2 i = row i) ∧ (∀ i, i < 4 → r.2.1 (c + i) = row i) ∧ (∀ i, (i < c ∨ c + 4 ≤ i) → r.2.1 i = kept i) ∧ r.2.2.1 = nI (c + 4)) 4 (fun j t hj ht => by
    have hlt : ¬ (4 : Int32) ≤ nI j := nI_ge hj (by decide)
    obtain ⟨a1, a2, a3⟩ := ht
    refine Or.inl ⟨(upd t.1 (c + j) (t.2 j), upd t.2 j (t.2 j)), ?_, ?_, ?_, ?_⟩
    · unfold s_X5_passRow_purse_2
      dsimp only
      rw [if_neg hlt, chk_nI _ hj (by decide), nI_clamp (show j < 2 ^ 31 by omega)]
      refine (ob_some (pass_W (by omega) _)).trans ?_
      rw [nI_1]
      rfl
    · intro i
      dsimp only
      rw [upd_same]
      exact a1 i
    · intro i hi
      dsimp only
      by_cases e : i = j
      · subst e
        rw [pk_us]
        exact a1 i
      · rw [pk_un (by omega)]
        exact a2 i (by omega)
    · intro i hi
      dsimp only
      rw [pk_un (by omega)]
      exact a3 i (by omega)) (fun t ht => by
    obtain ⟨a1, a2, a3⟩ := ht
    refine ⟨(nI 4, t.1, nI (c + 4), t.2), ?_, a1, a2, a3, rfl⟩
    unfold s_X5_passRow_purse_2
    dsimp only
    rw [if_pos (by decide)]) (fuel := 5000) (j0 := 0) (t0 := (kept, row)) (by decide) (by decide) ⟨fun _ => rfl, fun i hi => absurd hi (Nat.not_lt_zero i), fun _ _ => rfl⟩
  obtain ⟨a1, a2, a3, a4⟩ := h2
  exact ⟨(r.2.2.2, r.2.1, r.2.2.1), (ob_some h1).trans rfl, a1, a2, a3, a4⟩
theorem pr_purse {row kept : Nat → Int32} {c : Nat} (hc : c + 4 ≤ 180) : ∃ o, f_X5_passRow_purse row kept (nI c) 0 4 = some o ∧ (∀ i, i < 4 → o.1 i = kept (c + i)) ∧ (∀ i, o.2.1 i = kept i) ∧ o.2.2 = nI (c + 4) := by
  obtain ⟨r, h1, h2⟩ := wh_inv (step := s_X5_passRow_purse_2 0 4) (emb := fun j (t : (Nat → Int32) × (Nat → Int32)) => (nI j, t.1, nI (c + j), t.2)) (P := fun j t => (∀ i, i < j → t.2 i = kept (c + i)) ∧ ∀ i, t.1 i = kept i) (Q := fun r => (∀ i, i < 4 → r.2.2.2 i = kept (c + i)) ∧ (∀ i, r.2.1 i = kept i) ∧ r.2.2.1 = nI (c + 4)) 4 (fun j t hj ht => by
    have hlt : ¬ (4 : Int32) ≤ nI j := nI_ge hj (by decide)
    obtain ⟨a1, a2⟩ := ht
    refine Or.inl ⟨(upd t.1 (c + j) (t.1 (c + j)), upd t.2 j (t.1 (c + j))), ?_, ?_, ?_⟩
    · unfold s_X5_passRow_purse_2
      dsimp only
      rw [if_neg hlt, chk_nI _ hj (by decide), nI_clamp (show j < 2 ^ 31 by omega)]
      refine (ob_some (pass_R (by omega) _)).trans ?_
      rw [nI_1]
      rfl
    · intro i hi
      dsimp only
      by_cases e : i = j
      · subst e
        rw [pk_us]
        exact a2 _
      · rw [pk_un e]
        exact a1 i (by omega)
    · intro i
      dsimp only
      rw [upd_same]
      exact a2 i) (fun t ht => by
    obtain ⟨a1, a2⟩ := ht
    refine ⟨(nI 4, t.1, nI (c + 4), t.2), ?_, a1, a2, rfl⟩
    unfold s_X5_passRow_purse_2
    dsimp only
    rw [if_pos (by decide)]) (fuel := 5000) (j0 := 0) (t0 := (kept, row)) (by decide) (by decide) ⟨fun i hi => absurd hi (Nat.not_lt_zero i), fun _ => rfl⟩
  obtain ⟨a1, a2, a3⟩ := h2
  exact ⟨(r.2.2.2, r.2.1, r.2.2.1), (ob_some h1).trans rfl, a1, a2, a3⟩
theorem pw_has {row kept : Nat → Int32} {c : Nat} (hc : c + 4 ≤ 180) : ∃ o, f_X5_passRow_has row kept (nI c) 1 4 = some o ∧ (∀ i, o.1 i = row i) ∧ (∀ i, i < 4 → o.2.1 (c + i) = row i) ∧ (∀ i, (i < c ∨ c + 4 ≤ i) → o.2.1 i = kept i) ∧ o.2.2 = nI (c + 4) := by
  obtain ⟨r, h1, h2⟩ := wh_inv (step := s_X5_passRow_has_2 1 4) (emb := fun j (t : (Nat → Int32) × (Nat → Int32)) => (nI j, t.2, t.1, nI (c + j))) (P := fun j t => (∀ i, t.2 i = row i) ∧ (∀ i, i < j → t.1 (c + i) = row i) ∧ ∀ i, (i < c ∨ c + j ≤ i) → t.1 i = kept i) (Q := fun r => (∀ i, r.2.1 i = row i) ∧ (∀ i, i < 4 → r.2.2.1 (c + i) = row i) ∧ (∀ i, (i < c ∨ c + 4 ≤ i) → r.2.2.1 i = kept i) ∧ r.2.2.2 = nI (c + 4)) 4 (fun j t hj ht => by
    have hlt : ¬ (4 : Int32) ≤ nI j := nI_ge hj (by decide)
    obtain ⟨a1, a2, a3⟩ := ht
    refine Or.inl ⟨(upd t.1 (c + j) (t.2 j), upd t.2 j (t.2 j)), ?_, ?_, ?_, ?_⟩
    · unfold s_X5_passRow_has_2
      dsimp only
      rw [if_neg hlt, chk_nI _ hj (by decide), nI_clamp (show j < 2 ^ 31 by omega)]
      refine (ob_some (pass_W (by omega) _)).trans ?_
      rw [nI_1]
      rfl
    · intro i
      dsimp only
      rw [upd_same]
      exact a1 i
    · intro i hi
      dsimp only
      by_cases e : i = j
      · subst e
        rw [pk_us]
        exact a1 i
      · rw [pk_un (by omega)]
        exact a2 i (by omega)
    · intro i hi
      dsimp only
      rw [pk_un (by omega)]
      exact a3 i (by omega)) (fun t ht => by
    obtain ⟨a1, a2, a3⟩ := ht
    refine ⟨(nI 4, t.2, t.1, nI (c + 4)), ?_, a1, a2, a3, rfl⟩
    unfold s_X5_passRow_has_2
    dsimp only
    rw [if_pos (by decide)]) (fuel := 5000) (j0 := 0) (t0 := (kept, row)) (by decide) (by decide) ⟨fun _ => rfl, fun i hi => absurd hi (Nat.not_lt_zero i), fun _ _ => rfl⟩
  obtain ⟨a1, a2, a3, a4⟩ := h2
  exact ⟨(r.2.1, r.2.2.1, r.2.2.2), (ob_some h1).trans rfl, a1, a2, a3, a4⟩
theorem pr_has {row kept : Nat → Int32} {c : Nat} (hc : c + 4 ≤ 180) : ∃ o, f_X5_passRow_has row kept (nI c) 0 4 = some o ∧ (∀ i, i < 4 → o.1 i = kept (c + i)) ∧ (∀ i, o.2.1 i = kept i) ∧ o.2.2 = nI (c + 4) := by
  obtain ⟨r, h1, h2⟩ := wh_inv (step := s_X5_passRow_has_2 0 4) (emb := fun j (t : (Nat → Int32) × (Nat → Int32)) => (nI j, t.2, t.1, nI (c + j))) (P := fun j t => (∀ i, i < j → t.2 i = kept (c + i)) ∧ ∀ i, t.1 i = kept i) (Q := fun r => (∀ i, i < 4 → r.2.1 i = kept (c + i)) ∧ (∀ i, r.2.2.1 i = kept i) ∧ r.2.2.2 = nI (c + 4)) 4 (fun j t hj ht => by
    have hlt : ¬ (4 : Int32) ≤ nI j := nI_ge hj (by decide)
    obtain ⟨a1, a2⟩ := ht
    refine Or.inl ⟨(upd t.1 (c + j) (t.1 (c + j)), upd t.2 j (t.1 (c + j))), ?_, ?_, ?_⟩
    · unfold s_X5_passRow_has_2
      dsimp only
      rw [if_neg hlt, chk_nI _ hj (by decide), nI_clamp (show j < 2 ^ 31 by omega)]
      refine (ob_some (pass_R (by omega) _)).trans ?_
      rw [nI_1]
      rfl
    · intro i hi
      dsimp only
      by_cases e : i = j
      · subst e
        rw [pk_us]
        exact a2 _
      · rw [pk_un e]
        exact a1 i (by omega)
    · intro i
      dsimp only
      rw [upd_same]
      exact a2 i) (fun t ht => by
    obtain ⟨a1, a2⟩ := ht
    refine ⟨(nI 4, t.2, t.1, nI (c + 4)), ?_, a1, a2, rfl⟩
    unfold s_X5_passRow_has_2
    dsimp only
    rw [if_pos (by decide)]) (fuel := 5000) (j0 := 0) (t0 := (kept, row)) (by decide) (by decide) ⟨fun i hi => absurd hi (Nat.not_lt_zero i), fun _ => rfl⟩
  obtain ⟨a1, a2, a3⟩ := h2
  exact ⟨(r.2.1, r.2.2.1, r.2.2.2), (ob_some h1).trans rfl, a1, a2, a3⟩
theorem pw_wishes {row kept : Nat → Int32} {c : Nat} (hc : c + 8 ≤ 180) : ∃ o, f_X5_passRow_wishes row kept (nI c) 1 8 = some o ∧ (∀ i, o.1 i = row i) ∧ (∀ i, i < 8 → o.2.1 (c + i) = row i) ∧ (∀ i, (i < c ∨ c + 8 ≤ i) → o.2.1 i = kept i) ∧ o.2.2 = nI (c + 8) := by
  obtain ⟨r, h1, h2⟩ := wh_inv (step := s_X5_passRow_wishes_2 1 8) (emb := fun j (t : (Nat → Int32) × (Nat → Int32)) => (nI j, t.1, nI (c + j), t.2)) (P := fun j t => (∀ i, t.2 i = row i) ∧ (∀ i, i < j → t.1 (c + i) = row i) ∧ ∀ i, (i < c ∨ c + j ≤ i) → t.1 i = kept i) (Q := fun r => (∀ i, r.2.2.2 i = row i) ∧ (∀ i, i < 8 → r.2.1 (c + i) = row i) ∧ (∀ i, (i < c ∨ c + 8 ≤ i) → r.2.1 i = kept i) ∧ r.2.2.1 = nI (c + 8)) 8 (fun j t hj ht => by
    have hlt : ¬ (8 : Int32) ≤ nI j := nI_ge hj (by decide)
    obtain ⟨a1, a2, a3⟩ := ht
    refine Or.inl ⟨(upd t.1 (c + j) (t.2 j), upd t.2 j (t.2 j)), ?_, ?_, ?_, ?_⟩
    · unfold s_X5_passRow_wishes_2
      dsimp only
      rw [if_neg hlt, chk_nI _ hj (by decide), nI_clamp (show j < 2 ^ 31 by omega)]
      refine (ob_some (pass_W (by omega) _)).trans ?_
      rw [nI_1]
      rfl
    · intro i
      dsimp only
      rw [upd_same]
      exact a1 i
    · intro i hi
      dsimp only
      by_cases e : i = j
      · subst e
        rw [pk_us]
        exact a1 i
      · rw [pk_un (by omega)]
        exact a2 i (by omega)
    · intro i hi
      dsimp only
      rw [pk_un (by omega)]
      exact a3 i (by omega)) (fun t ht => by
    obtain ⟨a1, a2, a3⟩ := ht
    refine ⟨(nI 8, t.1, nI (c + 8), t.2), ?_, a1, a2, a3, rfl⟩
    unfold s_X5_passRow_wishes_2
    dsimp only
    rw [if_pos (by decide)]) (fuel := 5000) (j0 := 0) (t0 := (kept, row)) (by decide) (by decide) ⟨fun _ => rfl, fun i hi => absurd hi (Nat.not_lt_zero i), fun _ _ => rfl⟩
  obtain ⟨a1, a2, a3, a4⟩ := h2
  exact ⟨(r.2.2.2, r.2.1, r.2.2.1), (ob_some h1).trans rfl, a1, a2, a3, a4⟩
theorem pr_wishes {row kept : Nat → Int32} {c : Nat} (hc : c + 8 ≤ 180) : ∃ o, f_X5_passRow_wishes row kept (nI c) 0 8 = some o ∧ (∀ i, i < 8 → o.1 i = kept (c + i)) ∧ (∀ i, o.2.1 i = kept i) ∧ o.2.2 = nI (c + 8) := by
  obtain ⟨r, h1, h2⟩ := wh_inv (step := s_X5_passRow_wishes_2 0 8) (emb := fun j (t : (Nat → Int32) × (Nat → Int32)) => (nI j, t.1, nI (c + j), t.2)) (P := fun j t => (∀ i, i < j → t.2 i = kept (c + i)) ∧ ∀ i, t.1 i = kept i) (Q := fun r => (∀ i, i < 8 → r.2.2.2 i = kept (c + i)) ∧ (∀ i, r.2.1 i = kept i) ∧ r.2.2.1 = nI (c + 8)) 8 (fun j t hj ht => by
    have hlt : ¬ (8 : Int32) ≤ nI j := nI_ge hj (by decide)
    obtain ⟨a1, a2⟩ := ht
    refine Or.inl ⟨(upd t.1 (c + j) (t.1 (c + j)), upd t.2 j (t.1 (c + j))), ?_, ?_, ?_⟩
    · unfold s_X5_passRow_wishes_2
      dsimp only
      rw [if_neg hlt, chk_nI _ hj (by decide), nI_clamp (show j < 2 ^ 31 by omega)]
      refine (ob_some (pass_R (by omega) _)).trans ?_
      rw [nI_1]
      rfl
    · intro i hi
      dsimp only
      by_cases e : i = j
      · subst e
        rw [pk_us]
        exact a2 _
      · rw [pk_un e]
        exact a1 i (by omega)
    · intro i
      dsimp only
      rw [upd_same]
      exact a2 i) (fun t ht => by
    obtain ⟨a1, a2⟩ := ht
    refine ⟨(nI 8, t.1, nI (c + 8), t.2), ?_, a1, a2, rfl⟩
    unfold s_X5_passRow_wishes_2
    dsimp only
    rw [if_pos (by decide)]) (fuel := 5000) (j0 := 0) (t0 := (kept, row)) (by decide) (by decide) ⟨fun i hi => absurd hi (Nat.not_lt_zero i), fun _ => rfl⟩
  obtain ⟨a1, a2, a3⟩ := h2
  exact ⟨(r.2.2.2, r.2.1, r.2.2.1), (ob_some h1).trans rfl, a1, a2, a3⟩
theorem pw_sightLeft {row kept : Nat → Int32} {c : Nat} (hc : c + 6 ≤ 180) : ∃ o, f_X5_passRow_sightLeft row kept (nI c) 1 6 = some o ∧ (∀ i, o.1 i = row i) ∧ (∀ i, i < 6 → o.2.1 (c + i) = row i) ∧ (∀ i, (i < c ∨ c + 6 ≤ i) → o.2.1 i = kept i) ∧ o.2.2 = nI (c + 6) := by
  obtain ⟨r, h1, h2⟩ := wh_inv (step := s_X5_passRow_sightLeft_2 1 6) (emb := fun j (t : (Nat → Int32) × (Nat → Int32)) => (nI j, t.1, nI (c + j), t.2)) (P := fun j t => (∀ i, t.2 i = row i) ∧ (∀ i, i < j → t.1 (c + i) = row i) ∧ ∀ i, (i < c ∨ c + j ≤ i) → t.1 i = kept i) (Q := fun r => (∀ i, r.2.2.2 i = row i) ∧ (∀ i, i < 6 → r.2.1 (c + i) = row i) ∧ (∀ i, (i < c ∨ c + 6 ≤ i) → r.2.1 i = kept i) ∧ r.2.2.1 = nI (c + 6)) 6 (fun j t hj ht => by
    have hlt : ¬ (6 : Int32) ≤ nI j := nI_ge hj (by decide)
    obtain ⟨a1, a2, a3⟩ := ht
    refine Or.inl ⟨(upd t.1 (c + j) (t.2 j), upd t.2 j (t.2 j)), ?_, ?_, ?_, ?_⟩
    · unfold s_X5_passRow_sightLeft_2
      dsimp only
      rw [if_neg hlt, chk_nI _ hj (by decide), nI_clamp (show j < 2 ^ 31 by omega)]
      refine (ob_some (pass_W (by omega) _)).trans ?_
      rw [nI_1]
      rfl
    · intro i
      dsimp only
      rw [upd_same]
      exact a1 i
    · intro i hi
      dsimp only
      by_cases e : i = j
      · subst e
        rw [pk_us]
        exact a1 i
      · rw [pk_un (by omega)]
        exact a2 i (by omega)
    · intro i hi
      dsimp only
      rw [pk_un (by omega)]
      exact a3 i (by omega)) (fun t ht => by
    obtain ⟨a1, a2, a3⟩ := ht
    refine ⟨(nI 6, t.1, nI (c + 6), t.2), ?_, a1, a2, a3, rfl⟩
    unfold s_X5_passRow_sightLeft_2
    dsimp only
    rw [if_pos (by decide)]) (fuel := 5000) (j0 := 0) (t0 := (kept, row)) (by decide) (by decide) ⟨fun _ => rfl, fun i hi => absurd hi (Nat.not_lt_zero i), fun _ _ => rfl⟩
  obtain ⟨a1, a2, a3, a4⟩ := h2
  exact ⟨(r.2.2.2, r.2.1, r.2.2.1), (ob_some h1).trans rfl, a1, a2, a3, a4⟩
theorem pr_sightLeft {row kept : Nat → Int32} {c : Nat} (hc : c + 6 ≤ 180) : ∃ o, f_X5_passRow_sightLeft row kept (nI c) 0 6 = some o ∧ (∀ i, i < 6 → o.1 i = kept (c + i)) ∧ (∀ i, o.2.1 i = kept i) ∧ o.2.2 = nI (c + 6) := by
  obtain ⟨r, h1, h2⟩ := wh_inv (step := s_X5_passRow_sightLeft_2 0 6) (emb := fun j (t : (Nat → Int32) × (Nat → Int32)) => (nI j, t.1, nI (c + j), t.2)) (P := fun j t => (∀ i, i < j → t.2 i = kept (c + i)) ∧ ∀ i, t.1 i = kept i) (Q := fun r => (∀ i, i < 6 → r.2.2.2 i = kept (c + i)) ∧ (∀ i, r.2.1 i = kept i) ∧ r.2.2.1 = nI (c + 6)) 6 (fun j t hj ht => by
    have hlt : ¬ (6 : Int32) ≤ nI j := nI_ge hj (by decide)
    obtain ⟨a1, a2⟩ := ht
    refine Or.inl ⟨(upd t.1 (c + j) (t.1 (c + j)), upd t.2 j (t.1 (c + j))), ?_, ?_, ?_⟩
    · unfold s_X5_passRow_sightLeft_2
      dsimp only
      rw [if_neg hlt, chk_nI _ hj (by decide), nI_clamp (show j < 2 ^ 31 by omega)]
      refine (ob_some (pass_R (by omega) _)).trans ?_
      rw [nI_1]
      rfl
    · intro i hi
      dsimp only
      by_cases e : i = j
      · subst e
        rw [pk_us]
        exact a2 _
      · rw [pk_un e]
        exact a1 i (by omega)
    · intro i
      dsimp only
      rw [upd_same]
      exact a2 i) (fun t ht => by
    obtain ⟨a1, a2⟩ := ht
    refine ⟨(nI 6, t.1, nI (c + 6), t.2), ?_, a1, a2, rfl⟩
    unfold s_X5_passRow_sightLeft_2
    dsimp only
    rw [if_pos (by decide)]) (fuel := 5000) (j0 := 0) (t0 := (kept, row)) (by decide) (by decide) ⟨fun i hi => absurd hi (Nat.not_lt_zero i), fun _ => rfl⟩
  obtain ⟨a1, a2, a3⟩ := h2
  exact ⟨(r.2.2.2, r.2.1, r.2.2.1), (ob_some h1).trans rfl, a1, a2, a3⟩
theorem pw_sightRight {row kept : Nat → Int32} {c : Nat} (hc : c + 6 ≤ 180) : ∃ o, f_X5_passRow_sightRight row kept (nI c) 1 6 = some o ∧ (∀ i, o.1 i = row i) ∧ (∀ i, i < 6 → o.2.1 (c + i) = row i) ∧ (∀ i, (i < c ∨ c + 6 ≤ i) → o.2.1 i = kept i) ∧ o.2.2 = nI (c + 6) := by
  obtain ⟨r, h1, h2⟩ := wh_inv (step := s_X5_passRow_sightRight_2 1 6) (emb := fun j (t : (Nat → Int32) × (Nat → Int32)) => (nI j, t.1, nI (c + j), t.2)) (P := fun j t => (∀ i, t.2 i = row i) ∧ (∀ i, i < j → t.1 (c + i) = row i) ∧ ∀ i, (i < c ∨ c + j ≤ i) → t.1 i = kept i) (Q := fun r => (∀ i, r.2.2.2 i = row i) ∧ (∀ i, i < 6 → r.2.1 (c + i) = row i) ∧ (∀ i, (i < c ∨ c + 6 ≤ i) → r.2.1 i = kept i) ∧ r.2.2.1 = nI (c + 6)) 6 (fun j t hj ht => by
    have hlt : ¬ (6 : Int32) ≤ nI j := nI_ge hj (by decide)
    obtain ⟨a1, a2, a3⟩ := ht
    refine Or.inl ⟨(upd t.1 (c + j) (t.2 j), upd t.2 j (t.2 j)), ?_, ?_, ?_, ?_⟩
    · unfold s_X5_passRow_sightRight_2
      dsimp only
      rw [if_neg hlt, chk_nI _ hj (by decide), nI_clamp (show j < 2 ^ 31 by omega)]
      refine (ob_some (pass_W (by omega) _)).trans ?_
      rw [nI_1]
      rfl
    · intro i
      dsimp only
      rw [upd_same]
      exact a1 i
    · intro i hi
      dsimp only
      by_cases e : i = j
      · subst e
        rw [pk_us]
        exact a1 i
      · rw [pk_un (by omega)]
        exact a2 i (by omega)
    · intro i hi
      dsimp only
      rw [pk_un (by omega)]
      exact a3 i (by omega)) (fun t ht => by
    obtain ⟨a1, a2, a3⟩ := ht
    refine ⟨(nI 6, t.1, nI (c + 6), t.2), ?_, a1, a2, a3, rfl⟩
    unfold s_X5_passRow_sightRight_2
    dsimp only
    rw [if_pos (by decide)]) (fuel := 5000) (j0 := 0) (t0 := (kept, row)) (by decide) (by decide) ⟨fun _ => rfl, fun i hi => absurd hi (Nat.not_lt_zero i), fun _ _ => rfl⟩
  obtain ⟨a1, a2, a3, a4⟩ := h2
  exact ⟨(r.2.2.2, r.2.1, r.2.2.1), (ob_some h1).trans rfl, a1, a2, a3, a4⟩
theorem pr_sightRight {row kept : Nat → Int32} {c : Nat} (hc : c + 6 ≤ 180) : ∃ o, f_X5_passRow_sightRight row kept (nI c) 0 6 = some o ∧ (∀ i, i < 6 → o.1 i = kept (c + i)) ∧ (∀ i, o.2.1 i = kept i) ∧ o.2.2 = nI (c + 6) := by
  obtain ⟨r, h1, h2⟩ := wh_inv (step := s_X5_passRow_sightRight_2 0 6) (emb := fun j (t : (Nat → Int32) × (Nat → Int32)) => (nI j, t.1, nI (c + j), t.2)) (P := fun j t => (∀ i, i < j → t.2 i = kept (c + i)) ∧ ∀ i, t.1 i = kept i) (Q := fun r => (∀ i, i < 6 → r.2.2.2 i = kept (c + i)) ∧ (∀ i, r.2.1 i = kept i) ∧ r.2.2.1 = nI (c + 6)) 6 (fun j t hj ht => by
    have hlt : ¬ (6 : Int32) ≤ nI j := nI_ge hj (by decide)
    obtain ⟨a1, a2⟩ := ht
    refine Or.inl ⟨(upd t.1 (c + j) (t.1 (c + j)), upd t.2 j (t.1 (c + j))), ?_, ?_, ?_⟩
    · unfold s_X5_passRow_sightRight_2
      dsimp only
      rw [if_neg hlt, chk_nI _ hj (by decide), nI_clamp (show j < 2 ^ 31 by omega)]
      refine (ob_some (pass_R (by omega) _)).trans ?_
      rw [nI_1]
      rfl
    · intro i hi
      dsimp only
      by_cases e : i = j
      · subst e
        rw [pk_us]
        exact a2 _
      · rw [pk_un e]
        exact a1 i (by omega)
    · intro i
      dsimp only
      rw [upd_same]
      exact a2 i) (fun t ht => by
    obtain ⟨a1, a2⟩ := ht
    refine ⟨(nI 6, t.1, nI (c + 6), t.2), ?_, a1, a2, rfl⟩
    unfold s_X5_passRow_sightRight_2
    dsimp only
    rw [if_pos (by decide)]) (fuel := 5000) (j0 := 0) (t0 := (kept, row)) (by decide) (by decide) ⟨fun i hi => absurd hi (Nat.not_lt_zero i), fun _ => rfl⟩
  obtain ⟨a1, a2, a3⟩ := h2
  exact ⟨(r.2.2.2, r.2.1, r.2.2.1), (ob_some h1).trans rfl, a1, a2, a3⟩
theorem pw_sightHow {row kept : Nat → Int32} {c : Nat} (hc : c + 6 ≤ 180) : ∃ o, f_X5_passRow_sightHow row kept (nI c) 1 6 = some o ∧ (∀ i, o.1 i = row i) ∧ (∀ i, i < 6 → o.2.1 (c + i) = row i) ∧ (∀ i, (i < c ∨ c + 6 ≤ i) → o.2.1 i = kept i) ∧ o.2.2 = nI (c + 6) := by
  obtain ⟨r, h1, h2⟩ := wh_inv (step := s_X5_passRow_sightHow_2 1 6) (emb := fun j (t : (Nat → Int32) × (Nat → Int32)) => (nI j, t.1, nI (c + j), t.2)) (P := fun j t => (∀ i, t.2 i = row i) ∧ (∀ i, i < j → t.1 (c + i) = row i) ∧ ∀ i, (i < c ∨ c + j ≤ i) → t.1 i = kept i) (Q := fun r => (∀ i, r.2.2.2 i = row i) ∧ (∀ i, i < 6 → r.2.1 (c + i) = row i) ∧ (∀ i, (i < c ∨ c + 6 ≤ i) → r.2.1 i = kept i) ∧ r.2.2.1 = nI (c + 6)) 6 (fun j t hj ht => by
    have hlt : ¬ (6 : Int32) ≤ nI j := nI_ge hj (by decide)
    obtain ⟨a1, a2, a3⟩ := ht
    refine Or.inl ⟨(upd t.1 (c + j) (t.2 j), upd t.2 j (t.2 j)), ?_, ?_, ?_, ?_⟩
    · unfold s_X5_passRow_sightHow_2
      dsimp only
      rw [if_neg hlt, chk_nI _ hj (by decide), nI_clamp (show j < 2 ^ 31 by omega)]
      refine (ob_some (pass_W (by omega) _)).trans ?_
      rw [nI_1]
      rfl
    · intro i
      dsimp only
      rw [upd_same]
      exact a1 i
    · intro i hi
      dsimp only
      by_cases e : i = j
      · subst e
        rw [pk_us]
        exact a1 i
      · rw [pk_un (by omega)]
        exact a2 i (by omega)
    · intro i hi
      dsimp only
      rw [pk_un (by omega)]
      exact a3 i (by omega)) (fun t ht => by
    obtain ⟨a1, a2, a3⟩ := ht
    refine ⟨(nI 6, t.1, nI (c + 6), t.2), ?_, a1, a2, a3, rfl⟩
    unfold s_X5_passRow_sightHow_2
    dsimp only
    rw [if_pos (by decide)]) (fuel := 5000) (j0 := 0) (t0 := (kept, row)) (by decide) (by decide) ⟨fun _ => rfl, fun i hi => absurd hi (Nat.not_lt_zero i), fun _ _ => rfl⟩
  obtain ⟨a1, a2, a3, a4⟩ := h2
  exact ⟨(r.2.2.2, r.2.1, r.2.2.1), (ob_some h1).trans rfl, a1, a2, a3, a4⟩
theorem pr_sightHow {row kept : Nat → Int32} {c : Nat} (hc : c + 6 ≤ 180) : ∃ o, f_X5_passRow_sightHow row kept (nI c) 0 6 = some o ∧ (∀ i, i < 6 → o.1 i = kept (c + i)) ∧ (∀ i, o.2.1 i = kept i) ∧ o.2.2 = nI (c + 6) := by
  obtain ⟨r, h1, h2⟩ := wh_inv (step := s_X5_passRow_sightHow_2 0 6) (emb := fun j (t : (Nat → Int32) × (Nat → Int32)) => (nI j, t.1, nI (c + j), t.2)) (P := fun j t => (∀ i, i < j → t.2 i = kept (c + i)) ∧ ∀ i, t.1 i = kept i) (Q := fun r => (∀ i, i < 6 → r.2.2.2 i = kept (c + i)) ∧ (∀ i, r.2.1 i = kept i) ∧ r.2.2.1 = nI (c + 6)) 6 (fun j t hj ht => by
    have hlt : ¬ (6 : Int32) ≤ nI j := nI_ge hj (by decide)
    obtain ⟨a1, a2⟩ := ht
    refine Or.inl ⟨(upd t.1 (c + j) (t.1 (c + j)), upd t.2 j (t.1 (c + j))), ?_, ?_, ?_⟩
    · unfold s_X5_passRow_sightHow_2
      dsimp only
      rw [if_neg hlt, chk_nI _ hj (by decide), nI_clamp (show j < 2 ^ 31 by omega)]
      refine (ob_some (pass_R (by omega) _)).trans ?_
      rw [nI_1]
      rfl
    · intro i hi
      dsimp only
      by_cases e : i = j
      · subst e
        rw [pk_us]
        exact a2 _
      · rw [pk_un e]
        exact a1 i (by omega)
    · intro i
      dsimp only
      rw [upd_same]
      exact a2 i) (fun t ht => by
    obtain ⟨a1, a2⟩ := ht
    refine ⟨(nI 6, t.1, nI (c + 6), t.2), ?_, a1, a2, rfl⟩
    unfold s_X5_passRow_sightHow_2
    dsimp only
    rw [if_pos (by decide)]) (fuel := 5000) (j0 := 0) (t0 := (kept, row)) (by decide) (by decide) ⟨fun i hi => absurd hi (Nat.not_lt_zero i), fun _ => rfl⟩
  obtain ⟨a1, a2, a3⟩ := h2
  exact ⟨(r.2.2.2, r.2.1, r.2.2.1), (ob_some h1).trans rfl, a1, a2, a3⟩
/-- what an image of the other side keeps, from place c on -/
def KM (S : Nat → Nat → Nat) (c : Nat) (kept : Nat → Int32) : Prop := kept c = nI (S 9 0) ∧ kept (c + 1) = nI (S 9 1) ∧ (∀ j, j < 12 → kept (c + 2 + j) = nI (S 0 j)) ∧ (∀ j, j < 12 → kept (c + 14 + j) = nI (S 1 j)) ∧ (∀ j, j < 12 → kept (c + 26 + j) = nI (S 2 j)) ∧ (∀ j, j < 4 → kept (c + 38 + j) = nI (S 3 j)) ∧ (∀ j, j < 4 → kept (c + 42 + j) = nI (S 4 j)) ∧ (∀ j, j < 8 → kept (c + 46 + j) = nI (S 5 j)) ∧ (∀ j, j < 6 → kept (c + 54 + j) = nI (S 6 j)) ∧ (∀ j, j < 6 → kept (c + 60 + j) = nI (S 7 j)) ∧ (∀ j, j < 6 → kept (c + 66 + j) = nI (S 8 j))
theorem KM_far {S : Nat → Nat → Nat} {c : Nat} {f g : Nat → Int32} (h : KM S c f) (e : ∀ i, c ≤ i → i < c + 72 → g i = f i) : KM S c g := by
  obtain ⟨h0, h1, a0, a1, a2, a3, a4, a5, a6, a7, a8⟩ := h
  exact ⟨(e _ (by omega) (by omega)).trans h0, (e _ (by omega) (by omega)).trans h1, fun j hj => (e _ (by omega) (by omega)).trans (a0 j hj), fun j hj => (e _ (by omega) (by omega)).trans (a1 j hj), fun j hj => (e _ (by omega) (by omega)).trans (a2 j hj), fun j hj => (e _ (by omega) (by omega)).trans (a3 j hj), fun j hj => (e _ (by omega) (by omega)).trans (a4 j hj), fun j hj => (e _ (by omega) (by omega)).trans (a5 j hj), fun j hj => (e _ (by omega) (by omega)).trans (a6 j hj), fun j hj => (e _ (by omega) (by omega)).trans (a7 j hj), fun j hj => (e _ (by omega) (by omega)).trans (a8 j hj)⟩
theorem passAll_W {S : Nat → Nat → Nat} {mw mkd mr mp mb mi ml mg mo : Nat → Int32} {mwc msc : Int32} (hM : MA S mw mkd mr mp mb mi mwc ml mg mo msc) (kept : Nat → Int32) {c : Nat} (hc : c + 72 ≤ 180) : ∃ o, f_X5_passAll mw mkd mr mp mb mi mwc ml mg mo msc kept (nI c) 1 = some o ∧ MA S o.1 o.2.1 o.2.2.1 o.2.2.2.1 o.2.2.2.2.1 o.2.2.2.2.2.1 o.2.2.2.2.2.2.1 o.2.2.2.2.2.2.2.1 o.2.2.2.2.2.2.2.2.1 o.2.2.2.2.2.2.2.2.2.1 o.2.2.2.2.2.2.2.2.2.2.1 ∧ KM S c o.2.2.2.2.2.2.2.2.2.2.2.1 ∧ ∀ i, (i < c ∨ c + 72 ≤ i) → o.2.2.2.2.2.2.2.2.2.2.2.1 i = kept i := by
  obtain ⟨y0, y1, y2, y3, y4, y5, y6, y7, y8, y9, y10⟩ := hM
  have p1 := pass_W (kept := kept) (c := c) (by omega) mwc
  have p2 := pass_W (kept := upd kept c mwc) (c := c + 1) (by omega) msc
  obtain ⟨o0, q0, a0, b0, e0, z0⟩ := pw_weight (row := mw) (kept := upd (upd kept c mwc) (c + 1) msc) (c := c + 2) (by omega)
  obtain ⟨o1, q1, a1, b1, e1, z1⟩ := pw_kind (row := mkd) (kept := o0.2.1) (c := c + 14) (by omega)
  rw [show c + 14 = c + 2 + 12 from rfl, ← z0] at q1
  obtain ⟨o2, q2, a2, b2, e2, z2⟩ := pw_rhymes (row := mr) (kept := o1.2.1) (c := c + 26) (by omega)
  rw [show c + 26 = c + 14 + 12 from rfl, ← z1] at q2
  obtain ⟨o3, q3, a3, b3, e3, z3⟩ := pw_purse (row := mp) (kept := o2.2.1) (c := c + 38) (by omega)
  rw [show c + 38 = c + 26 + 12 from rfl, ← z2] at q3
  obtain ⟨o4, q4, a4, b4, e4, z4⟩ := pw_has (row := mb) (kept := o3.2.1) (c := c + 42) (by omega)
  rw [show c + 42 = c + 38 + 4 from rfl, ← z3] at q4
  obtain ⟨o5, q5, a5, b5, e5, z5⟩ := pw_wishes (row := mi) (kept := o4.2.1) (c := c + 46) (by omega)
  rw [show c + 46 = c + 42 + 4 from rfl, ← z4] at q5
  obtain ⟨o6, q6, a6, b6, e6, z6⟩ := pw_sightLeft (row := ml) (kept := o5.2.1) (c := c + 54) (by omega)
  rw [show c + 54 = c + 46 + 8 from rfl, ← z5] at q6
  obtain ⟨o7, q7, a7, b7, e7, z7⟩ := pw_sightRight (row := mg) (kept := o6.2.1) (c := c + 60) (by omega)
  rw [show c + 60 = c + 54 + 6 from rfl, ← z6] at q7
  obtain ⟨o8, q8, a8, b8, e8, z8⟩ := pw_sightHow (row := mo) (kept := o7.2.1) (c := c + 66) (by omega)
  rw [show c + 66 = c + 60 + 6 from rfl, ← z7] at q8
  refine ⟨_, (ob_some p1).trans ((ob_some p2).trans ((ob_some q0).trans ((ob_some q1).trans ((ob_some q2).trans ((ob_some q3).trans ((ob_some q4).trans ((ob_some q5).trans ((ob_some q6).trans ((ob_some q7).trans ((ob_some q8).trans (rfl))))))))))), ?_, ?_, ?_⟩
  · exact ⟨fun j hj => (a0 j).trans (y0 j hj), fun j hj => (a1 j).trans (y1 j hj), fun j hj => (a2 j).trans (y2 j hj), fun j hj => (a3 j).trans (y3 j hj), fun j hj => (a4 j).trans (y4 j hj), fun j hj => (a5 j).trans (y5 j hj), y6, fun j hj => (a6 j).trans (y7 j hj), fun j hj => (a7 j).trans (y8 j hj), fun j hj => (a8 j).trans (y9 j hj), y10⟩
  · dsimp only
    exact ⟨(e8 _ (by omega)).trans ((e7 _ (by omega)).trans ((e6 _ (by omega)).trans ((e5 _ (by omega)).trans ((e4 _ (by omega)).trans ((e3 _ (by omega)).trans ((e2 _ (by omega)).trans ((e1 _ (by omega)).trans ((e0 _ (by omega)).trans ((pk_un (by omega)).trans (pk_us.trans y6)))))))))), (e8 _ (by omega)).trans ((e7 _ (by omega)).trans ((e6 _ (by omega)).trans ((e5 _ (by omega)).trans ((e4 _ (by omega)).trans ((e3 _ (by omega)).trans ((e2 _ (by omega)).trans ((e1 _ (by omega)).trans ((e0 _ (by omega)).trans (pk_us.trans y10))))))))), fun j hj => (e8 _ (by omega)).trans ((e7 _ (by omega)).trans ((e6 _ (by omega)).trans ((e5 _ (by omega)).trans ((e4 _ (by omega)).trans ((e3 _ (by omega)).trans ((e2 _ (by omega)).trans ((e1 _ (by omega)).trans ((b0 j hj).trans (y0 j hj))))))))), fun j hj => (e8 _ (by omega)).trans ((e7 _ (by omega)).trans ((e6 _ (by omega)).trans ((e5 _ (by omega)).trans ((e4 _ (by omega)).trans ((e3 _ (by omega)).trans ((e2 _ (by omega)).trans ((b1 j hj).trans (y1 j hj)))))))), fun j hj => (e8 _ (by omega)).trans ((e7 _ (by omega)).trans ((e6 _ (by omega)).trans ((e5 _ (by omega)).trans ((e4 _ (by omega)).trans ((e3 _ (by omega)).trans ((b2 j hj).trans (y2 j hj))))))), fun j hj => (e8 _ (by omega)).trans ((e7 _ (by omega)).trans ((e6 _ (by omega)).trans ((e5 _ (by omega)).trans ((e4 _ (by omega)).trans ((b3 j hj).trans (y3 j hj)))))), fun j hj => (e8 _ (by omega)).trans ((e7 _ (by omega)).trans ((e6 _ (by omega)).trans ((e5 _ (by omega)).trans ((b4 j hj).trans (y4 j hj))))), fun j hj => (e8 _ (by omega)).trans ((e7 _ (by omega)).trans ((e6 _ (by omega)).trans ((b5 j hj).trans (y5 j hj)))), fun j hj => (e8 _ (by omega)).trans ((e7 _ (by omega)).trans ((b6 j hj).trans (y7 j hj))), fun j hj => (e8 _ (by omega)).trans ((b7 j hj).trans (y8 j hj)), fun j hj => (b8 j hj).trans (y9 j hj)⟩
  · intro i hi
    dsimp only
    exact (e8 _ (by omega)).trans ((e7 _ (by omega)).trans ((e6 _ (by omega)).trans ((e5 _ (by omega)).trans ((e4 _ (by omega)).trans ((e3 _ (by omega)).trans ((e2 _ (by omega)).trans ((e1 _ (by omega)).trans ((e0 _ (by omega)).trans ((pk_un (by omega)).trans (pk_un (by omega)))))))))))
theorem passAll_R {S : Nat → Nat → Nat} {mw mkd mr mp mb mi ml mg mo : Nat → Int32} {mwc msc : Int32} {kept : Nat → Int32} {c : Nat} (h : KM S c kept) (hc : c + 72 ≤ 180) : ∃ o, f_X5_passAll mw mkd mr mp mb mi mwc ml mg mo msc kept (nI c) 0 = some o ∧ MA S o.1 o.2.1 o.2.2.1 o.2.2.2.1 o.2.2.2.2.1 o.2.2.2.2.2.1 o.2.2.2.2.2.2.1 o.2.2.2.2.2.2.2.1 o.2.2.2.2.2.2.2.2.1 o.2.2.2.2.2.2.2.2.2.1 o.2.2.2.2.2.2.2.2.2.2.1 ∧ ∀ i, o.2.2.2.2.2.2.2.2.2.2.2.1 i = kept i := by
  obtain ⟨h0, h1, y0, y1, y2, y3, y4, y5, y6, y7, y8⟩ := h
  have p1 := pass_R (kept := kept) (c := c) (by omega) mwc
  have p2 := pass_R (kept := upd kept c (kept c)) (c := c + 1) (by omega) msc
  have e : ∀ i, upd (upd kept c (kept c)) (c + 1) (upd kept c (kept c) (c + 1)) i = kept i := fun i => (upd_same _ _ i).trans (upd_same _ _ i)
  obtain ⟨o0, q0, a0, e0, z0⟩ := pr_weight (row := mw) (kept := upd (upd kept c (kept c)) (c + 1) (upd kept c (kept c) (c + 1))) (c := c + 2) (by omega)
  obtain ⟨o1, q1, a1, e1, z1⟩ := pr_kind (row := mkd) (kept := o0.2.1) (c := c + 14) (by omega)
  rw [show c + 14 = c + 2 + 12 from rfl, ← z0] at q1
  obtain ⟨o2, q2, a2, e2, z2⟩ := pr_rhymes (row := mr) (kept := o1.2.1) (c := c + 26) (by omega)
  rw [show c + 26 = c + 14 + 12 from rfl, ← z1] at q2
  obtain ⟨o3, q3, a3, e3, z3⟩ := pr_purse (row := mp) (kept := o2.2.1) (c := c + 38) (by omega)
  rw [show c + 38 = c + 26 + 12 from rfl, ← z2] at q3
  obtain ⟨o4, q4, a4, e4, z4⟩ := pr_has (row := mb) (kept := o3.2.1) (c := c + 42) (by omega)
  rw [show c + 42 = c + 38 + 4 from rfl, ← z3] at q4
  obtain ⟨o5, q5, a5, e5, z5⟩ := pr_wishes (row := mi) (kept := o4.2.1) (c := c + 46) (by omega)
  rw [show c + 46 = c + 42 + 4 from rfl, ← z4] at q5
  obtain ⟨o6, q6, a6, e6, z6⟩ := pr_sightLeft (row := ml) (kept := o5.2.1) (c := c + 54) (by omega)
  rw [show c + 54 = c + 46 + 8 from rfl, ← z5] at q6
  obtain ⟨o7, q7, a7, e7, z7⟩ := pr_sightRight (row := mg) (kept := o6.2.1) (c := c + 60) (by omega)
  rw [show c + 60 = c + 54 + 6 from rfl, ← z6] at q7
  obtain ⟨o8, q8, a8, e8, z8⟩ := pr_sightHow (row := mo) (kept := o7.2.1) (c := c + 66) (by omega)
  rw [show c + 66 = c + 60 + 6 from rfl, ← z7] at q8
  refine ⟨_, (ob_some p1).trans ((ob_some p2).trans ((ob_some q0).trans ((ob_some q1).trans ((ob_some q2).trans ((ob_some q3).trans ((ob_some q4).trans ((ob_some q5).trans ((ob_some q6).trans ((ob_some q7).trans ((ob_some q8).trans (rfl))))))))))), ?_, ?_⟩
  · exact ⟨fun j hj => (a0 j hj).trans ((e _).trans (y0 j hj)), fun j hj => (a1 j hj).trans ((e0 _).trans ((e _).trans (y1 j hj))), fun j hj => (a2 j hj).trans ((e1 _).trans ((e0 _).trans ((e _).trans (y2 j hj)))), fun j hj => (a3 j hj).trans ((e2 _).trans ((e1 _).trans ((e0 _).trans ((e _).trans (y3 j hj))))), fun j hj => (a4 j hj).trans ((e3 _).trans ((e2 _).trans ((e1 _).trans ((e0 _).trans ((e _).trans (y4 j hj)))))), fun j hj => (a5 j hj).trans ((e4 _).trans ((e3 _).trans ((e2 _).trans ((e1 _).trans ((e0 _).trans ((e _).trans (y5 j hj))))))), h0, fun j hj => (a6 j hj).trans ((e5 _).trans ((e4 _).trans ((e3 _).trans ((e2 _).trans ((e1 _).trans ((e0 _).trans ((e _).trans (y6 j hj)))))))), fun j hj => (a7 j hj).trans ((e6 _).trans ((e5 _).trans ((e4 _).trans ((e3 _).trans ((e2 _).trans ((e1 _).trans ((e0 _).trans ((e _).trans (y7 j hj))))))))), fun j hj => (a8 j hj).trans ((e7 _).trans ((e6 _).trans ((e5 _).trans ((e4 _).trans ((e3 _).trans ((e2 _).trans ((e1 _).trans ((e0 _).trans ((e _).trans (y8 j hj)))))))))), (upd_same _ _ _).trans h1⟩
  · intro i
    dsimp only
    exact (e8 _).trans ((e7 _).trans ((e6 _).trans ((e5 _).trans ((e4 _).trans ((e3 _).trans ((e2 _).trans ((e1 _).trans ((e0 _).trans (e i)))))))))
