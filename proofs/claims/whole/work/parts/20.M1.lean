def f_X5_in (p0 : Int64) (p1 : Int64) (p2 : Int64) : Int32 := if (lg_cmp p0 p1) < 0 then (0) else (if 0 < (lg_cmp p0 p2) then (0) else (1))
theorem yd_X5_in : yX5_in.cls ≠ "java/lang/invoke/MethodHandle" ∧ yX5_in.cls ≠ "java/lang/invoke/VarHandle" ∧ (parseMethodDescriptor yX5_in.desc).map (fun d => d.parameters.length) = some 3 := by decide +kernel
abbrev rmX5_in : Room := { frames := 0, cells := 0, slots := 0, locals := 0 }
set_option maxHeartbeats 4000000 in
set_option maxRecDepth 100000 in
theorem k_X5_in (l : Launch) (D : va_G) (K : Nat → ClassId) (p0 : Int64) (p1 : Int64) (p2 : Int64) (out : Int32) (hf : f_X5_in p0 p1 p2 = out) : kI l D K .boolean yX5_in wsX5_in rmX5_in [.long p0, .long p1, .long p2] ([] : va_W) out ([] : va_W) := by
  refine kI.of (cc := cX5_in) (maxL := 6) (by decide) rfl (Nat.le_of_ble_eq_true rfl) ?_
  intro p e s m args below meth c A H0 Q ls hx hb hml hown hts hK hN hA hP hD hS hl hret
  have hown : s.vm.findClass RX5 = some m.cls := hown
  have hl : lv_has ls 6 [(0, .long p0), (2, .long p1), (4, .long p2)] := hl
  generalize hH : H0 = H at hP ⊢
  have hS : va_S A H0 H [] := by rw [← hH]; exact hS
  clear hH
  unfold f_X5_in at hf
  refine lv_lload_n hx hb dX5_in_0 rfl (lv_at hl 0 rfl) ?_
  refine lv_lload_n hx hb dX5_in_1 rfl (lv_at hl 1 rfl) ?_
  refine W.lcmp hx hb dX5_in_2 ?_
  refine lv_if_lt (tgt := 17) hx hb dX5_in_3 (by decide) (fun c1 => ?_) (fun c1 => ?_)
  · rw [if_pos c1] at hf
    refine lv_iconst (v := 0) hx hb dX5_in_17 (by decide) ?_
    subst hf
    exact hret rfl rfl rfl hP hD hS dX5_in_18
  · rw [if_neg c1] at hf
    refine lv_lload_n hx hb dX5_in_6 rfl (lv_at hl 0 rfl) ?_
    refine lv_lload hx hb dX5_in_7 (lv_at hl 2 rfl) ?_
    refine W.lcmp hx hb dX5_in_9 ?_
    refine lv_if_gt (tgt := 17) hx hb dX5_in_10 (by decide) (fun c2 => ?_) (fun c2 => ?_)
    · rw [if_pos c2] at hf
      refine lv_iconst (v := 0) hx hb dX5_in_17 (by decide) ?_
      subst hf
      exact hret rfl rfl rfl hP hD hS dX5_in_18
    · rw [if_neg c2] at hf
      refine lv_iconst (v := 1) hx hb dX5_in_13 (by decide) ?_
      refine lv_goto (tgt := 18) hx hb dX5_in_14 (by decide) ?_
      subst hf
      exact hret rfl rfl rfl hP hD hS dX5_in_18
def s_X5_ones_4 (x : Int32 × Int32) : Option ((Int32 × Int32) ⊕ (Int32 × Int32)) := if x.2 = 0 then (some (.inr (x.1, x.2))) else (some (.inl ((x.1 + 1), (x.2 &&& (x.2 - 1)))))
def f_X5_ones (p0 : Int32) : Option (Int32) := ob (wh (s_X5_ones_4) 5000 (0, p0)) (fun r1 => some r1.1)
theorem yd_X5_ones : yX5_ones.cls ≠ "java/lang/invoke/MethodHandle" ∧ yX5_ones.cls ≠ "java/lang/invoke/VarHandle" ∧ (parseMethodDescriptor yX5_ones.desc).map (fun d => d.parameters.length) = some 1 := by decide +kernel
abbrev rmX5_ones : Room := { frames := 0, cells := 0, slots := 0, locals := 0 }
set_option maxHeartbeats 4000000 in
set_option maxRecDepth 100000 in
theorem k_X5_ones (l : Launch) (D : va_G) (K : Nat → ClassId) (p0 : Int32) (out : Int32) (hf : f_X5_ones p0 = some out) : kI l D K .int yX5_ones wsX5_ones rmX5_ones [.int p0] ([] : va_W) out ([] : va_W) := by
  refine kI.of (cc := cX5_ones) (maxL := 3) (by decide) rfl (Nat.le_of_ble_eq_true rfl) ?_
  intro p e s m args below meth c A H0 Q ls hx hb hml hown hts hK hN hA hP hD hS hl hret
  have hown : s.vm.findClass RX5 = some m.cls := hown
  have hl : lv_has ls 3 [(0, .int p0)] := hl
  generalize hH : H0 = H at hP ⊢
  have hS : va_S A H0 H [] := by rw [← hH]; exact hS
  clear hH
  unfold f_X5_ones at hf
  refine lv_iconst (v := 0) hx hb dX5_ones_0 (by decide) ?_
  refine lv_istore_n (lv' := [(1, .int 0), (0, .int p0)]) hx hb dX5_ones_1 rfl hl (by decide) rfl (fun ls hl => ?_)
  refine lv_iload_n hx hb dX5_ones_2 rfl (lv_at hl 1 rfl) ?_
  refine lv_istore_n (lv' := [(2, .int p0), (1, .int 0), (0, .int p0)]) hx hb dX5_ones_3 rfl hl (by decide) rfl (fun ls hl => ?_)
  obtain ⟨r1, hr1, hf⟩ := ob_el hf
  have post4 : ∀ (e4_l1 : Int32) (e4_l2 : Int32) (H : Heap) (locs : List Loc) (ls : Array Slot), (some e4_l1) = some out → va_P D vwCl ([] : va_W) H → va_D A ([] : va_W) → va_S A H0 H locs → lv_has ls 3 [(2, .int e4_l2), (1, .int e4_l1), (0, .int p0)] → W p l e rmX5_ones s m args below meth c H locs 0 0 Q (F0 m 20 ls []) := by
    intro e4_l1 e4_l2 H locs ls hf hP hD hS hl
    refine lv_iload_n hx hb dX5_ones_20 rfl (lv_at hl 1 rfl) ?_
    obtain rfl := Option.some.inj hf
    exact hret rfl rfl rfl hP hD hS dX5_ones_21
  have lp4 : ∀ (fu : Nat) (x4_l1 : Int32) (x4_l2 : Int32) (H : Heap) (locs : List Loc) (ls : Array Slot), wh (s_X5_ones_4) fu (x4_l1, x4_l2) = some r1 → va_P D vwCl ([] : va_W) H → va_D A ([] : va_W) → va_S A H0 H locs → lv_has ls 3 [(2, .int x4_l2), (1, .int x4_l1), (0, .int p0)] → W p l e rmX5_ones s m args below meth c H locs 0 0 Q (F0 m 4 ls []) := by
    intro fu
    induction fu with
    | zero => intro x4_l1 x4_l2 H locs ls hw4; cases hw4
    | succ fu ih4 =>
      intro x4_l1 x4_l2 H locs ls hw4 hP hD hS hl
      obtain ⟨o4_, hs4, hw4⟩ := wh_el hw4
      unfold s_X5_ones_4 at hs4
      dsimp only at hs4
      refine lv_iload_n hx hb dX5_ones_4 rfl (lv_at hl 0 rfl) ?_
      refine lv_if_eq (tgt := 20) hx hb dX5_ones_5 (by decide) (fun c2 => ?_) (fun c2 => ?_)
      · rw [if_pos c2] at hs4
        obtain rfl := Option.some.inj hs4
        have e9 := Option.some.inj hw4
        rw [← e9] at hf
        exact post4 _ _ _ _ _ hf hP hD hS (lv_sub hl [0, 1, 2] rfl)
      · rw [if_neg c2] at hs4
        refine lv_iinc (v := (x4_l1 + 1)) (lv' := [(1, .int (x4_l1 + 1)), (2, .int x4_l2), (0, .int p0)]) hx hb dX5_ones_8 hl (k := 1) rfl (by rfl) (by decide) rfl (fun ls hl => ?_)
        refine lv_iload_n hx hb dX5_ones_11 rfl (lv_at hl 1 rfl) ?_
        refine lv_iload_n hx hb dX5_ones_12 rfl (lv_at hl 1 rfl) ?_
        refine lv_iconst (v := 1) hx hb dX5_ones_13 (by decide) ?_
        refine lv_isub hx hb dX5_ones_14 ?_
        refine lv_iand hx hb dX5_ones_15 ?_
        refine lv_istore_n (lv' := [(2, .int (x4_l2 &&& (x4_l2 - 1))), (1, .int (x4_l1 + 1)), (0, .int p0)]) hx hb dX5_ones_16 rfl hl (by decide) rfl (fun ls hl => ?_)
        refine lv_goto (tgt := 4) hx hb dX5_ones_17 (by decide) ?_
        obtain rfl := Option.some.inj hs4
        exact ih4 _ _ _ _ _ hw4 hP hD hS (lv_sub hl [0, 1, 2] rfl)
  exact lp4 5000 _ _ _ _ _ hr1 hP hD hS (lv_sub hl [0, 1, 2] rfl)
def f_X5_isWord (p0 : Int32) : Int32 := bd (f_X5_in p0.toInt64 (0) (11)) (fun o1 => o1)
theorem yd_X5_isWord : yX5_isWord.cls ≠ "java/lang/invoke/MethodHandle" ∧ yX5_isWord.cls ≠ "java/lang/invoke/VarHandle" ∧ (parseMethodDescriptor yX5_isWord.desc).map (fun d => d.parameters.length) = some 1 := by decide +kernel
abbrev rmX5_isWord : Room := { frames := 1, cells := 0, slots := 0, locals := 25 }
set_option maxHeartbeats 4000000 in
set_option maxRecDepth 100000 in
theorem k_X5_isWord (l : Launch) (D : va_G) (K : Nat → ClassId) (p0 : Int32) (out : Int32) (hf : f_X5_isWord p0 = out) : kI l D K .boolean yX5_isWord wsX5_isWord rmX5_isWord [.int p0] ([] : va_W) out ([] : va_W) := by
  refine kI.of (cc := cX5_isWord) (maxL := 1) (by decide) rfl (Nat.le_of_ble_eq_true rfl) ?_
  intro p e s m args below meth c A H0 Q ls hx hb hml hown hts hK hN hA hP hD hS hl hret
  have hown : s.vm.findClass RX5 = some m.cls := hown
  have hl : lv_has ls 1 [(0, .int p0)] := hl
  generalize hH : H0 = H at hP ⊢
  have hS : va_S A H0 H [] := by rw [← hH]; exact hS
  clear hH
  unfold f_X5_isWord at hf
  refine lv_iload_n hx hb dX5_isWord_0 rfl (lv_at hl 0 rfl) ?_
  refine lv_i2l (v := p0.toInt64) hx hb dX5_isWord_1 rfl ?_
  refine lv_lconst (v := 0) hx hb dX5_isWord_2 (by decide) ?_
  refine lv_ldc2 hx hb hown (hts (.constantLong RX5 69 (11)) (List.mem_of_getElem? (i := 1) rfl)) dX5_isWord_3 ?_
  obtain ⟨o1, ho1, hf⟩ := bd_el hf
  refine kc0_i (D := D) (va_runS (As := [.long p0.toInt64, .long 0, .long 11]) (rest := []) ⟨hx, hb, hml, hown, hts⟩ ((k_X5_in l D K p0.toInt64 (0) (11) o1 ho1) H.size) (va_cwS 3 hts gX5_isWord_X5_in rfl rfl rfl yd_X5_in ⟨Nat.le_of_ble_eq_true rfl, Nat.le_of_ble_eq_true rfl⟩) (kPreS va_P_nil (va_D_nil (A := fun _ => True)) hK hN) rfl rfl hl.1 rfl (lv_room (Nat.le_of_ble_eq_true rfl)) dX5_isWord_6 ⟨Nat.le_of_ble_eq_true rfl, Nat.le_of_ble_eq_true rfl⟩) hP hS hA (fun hzo1 H locs hP hS => ?_)
  subst hf
  exact hret rfl rfl hzo1 hP hD hS dX5_isWord_9
def f_X5_isSpeaker (p0 : Int32) : Int32 := bd (f_X5_in p0.toInt64 (0) (3)) (fun o1 => o1)
theorem yd_X5_isSpeaker : yX5_isSpeaker.cls ≠ "java/lang/invoke/MethodHandle" ∧ yX5_isSpeaker.cls ≠ "java/lang/invoke/VarHandle" ∧ (parseMethodDescriptor yX5_isSpeaker.desc).map (fun d => d.parameters.length) = some 1 := by decide +kernel
abbrev rmX5_isSpeaker : Room := { frames := 1, cells := 0, slots := 0, locals := 25 }
set_option maxHeartbeats 4000000 in
set_option maxRecDepth 100000 in
theorem k_X5_isSpeaker (l : Launch) (D : va_G) (K : Nat → ClassId) (p0 : Int32) (out : Int32) (hf : f_X5_isSpeaker p0 = out) : kI l D K .boolean yX5_isSpeaker wsX5_isSpeaker rmX5_isSpeaker [.int p0] ([] : va_W) out ([] : va_W) := by
  refine kI.of (cc := cX5_isSpeaker) (maxL := 1) (by decide) rfl (Nat.le_of_ble_eq_true rfl) ?_
  intro p e s m args below meth c A H0 Q ls hx hb hml hown hts hK hN hA hP hD hS hl hret
  have hown : s.vm.findClass RX5 = some m.cls := hown
  have hl : lv_has ls 1 [(0, .int p0)] := hl
  generalize hH : H0 = H at hP ⊢
  have hS : va_S A H0 H [] := by rw [← hH]; exact hS
  clear hH
  unfold f_X5_isSpeaker at hf
  refine lv_iload_n hx hb dX5_isSpeaker_0 rfl (lv_at hl 0 rfl) ?_
  refine lv_i2l (v := p0.toInt64) hx hb dX5_isSpeaker_1 rfl ?_
  refine lv_lconst (v := 0) hx hb dX5_isSpeaker_2 (by decide) ?_
  refine lv_ldc2 hx hb hown (hts (.constantLong RX5 75 (3)) (List.mem_of_getElem? (i := 1) rfl)) dX5_isSpeaker_3 ?_
  obtain ⟨o1, ho1, hf⟩ := bd_el hf
  refine kc0_i (D := D) (va_runS (As := [.long p0.toInt64, .long 0, .long 3]) (rest := []) ⟨hx, hb, hml, hown, hts⟩ ((k_X5_in l D K p0.toInt64 (0) (3) o1 ho1) H.size) (va_cwS 3 hts gX5_isSpeaker_X5_in rfl rfl rfl yd_X5_in ⟨Nat.le_of_ble_eq_true rfl, Nat.le_of_ble_eq_true rfl⟩) (kPreS va_P_nil (va_D_nil (A := fun _ => True)) hK hN) rfl rfl hl.1 rfl (lv_room (Nat.le_of_ble_eq_true rfl)) dX5_isSpeaker_6 ⟨Nat.le_of_ble_eq_true rfl, Nat.le_of_ble_eq_true rfl⟩) hP hS hA (fun hzo1 H locs hP hS => ?_)
  subst hf
  exact hret rfl rfl hzo1 hP hD hS dX5_isSpeaker_9
def f_X5_word (vweight : Nat → Int32) (vkind : Nat → Int32) (p0 : Int32) (p1 : Int32) (p2 : Int32) : Option (Int32 × (Nat → Int32) × (Nat → Int32)) := bd (f_X5_isWord p0) (fun o1 => if o1 = 0 then (some ((-1), vweight, vkind)) else (bd (f_X5_in p1.toInt64 (0) (99)) (fun o3 => if o3 = 0 then (some ((-2), vweight, vkind)) else (bd (f_X5_in p2.toInt64 (0) (2)) (fun o5 => if o5 = 0 then (some ((-2), vweight, vkind)) else (chk p0 12 (some ((vweight (p0).toNatClampNeg), (upd vweight (p0).toNatClampNeg p1), (upd vkind (p0).toNatClampNeg p2)))))))))
theorem inX5_word_X5 : ∀ w ∈ wsX50, w ∈ wsX5_word := fun w h => List.mem_cons_of_mem _ (List.mem_append_right _ h)
theorem yd_X5_word : yX5_word.cls ≠ "java/lang/invoke/MethodHandle" ∧ yX5_word.cls ≠ "java/lang/invoke/VarHandle" ∧ (parseMethodDescriptor yX5_word.desc).map (fun d => d.parameters.length) = some 3 := by decide +kernel
abbrev rmX5_word : Room := { frames := 2, cells := 0, slots := 0, locals := 45 }
set_option maxHeartbeats 4000000 in
set_option maxRecDepth 100000 in
theorem k_X5_word (l : Launch) (D : va_G) (K : Nat → ClassId) (q : Nat → Nat) (vweight : Nat → Int32) (vkind : Nat → Int32) (vrhymes : Nat → Int32) (vpurse : Nat → Int32) (vhas : Nat → Int32) (vwishes : Nat → Int32) (vwishMany : Int32) (vsightLeft : Nat → Int32) (vsightRight : Nat → Int32) (vsightHow : Nat → Int32) (vsights : Int32) (vpad : Nat → Int32) (vpadMany : Int32) (vact : Nat → Int32) (vwho : Nat → Int32) (vwhich : Nat → Int32) (vwhom : Nat → Int32) (vacts : Int32) (vplace : Int32) (vopenMany : Int32) (vended : Int32) (vspoken : Int32) (vheaviest : Int32) (vheaviestWeight : Int32) (vhad : Nat → Int32) (vbadAct : Int32) (vbadWhy : Int32) (vbrings : Nat → Int64) (vbringsThen : Nat → Int64) (vkept : Nat → Int32) (visKept : Nat → Int32) (vkeptAt : Int32) (visWriting : Int32) (p0 : Int32) (p1 : Int32) (p2 : Int32) (out : Int32 × (Nat → Int32) × (Nat → Int32)) (hf : f_X5_word vweight vkind p0 p1 p2 = some out) : kI l D K .int yX5_word wsX5_word rmX5_word [.ref (q 0), .int p0, .int p1, .int p2] (mdW K q vweight vkind vrhymes vpurse vhas vwishes vwishMany vsightLeft vsightRight vsightHow vsights vpad vpadMany vact vwho vwhich vwhom vacts vplace vopenMany vended vspoken vheaviest vheaviestWeight vhad vbadAct vbadWhy vbrings vbringsThen vkept visKept vkeptAt visWriting) out.1 (mdW K q out.2.1 out.2.2 vrhymes vpurse vhas vwishes vwishMany vsightLeft vsightRight vsightHow vsights vpad vpadMany vact vwho vwhich vwhom vacts vplace vopenMany vended vspoken vheaviest vheaviestWeight vhad vbadAct vbadWhy vbrings vbringsThen vkept visKept vkeptAt visWriting) := by
  refine kI.of (cc := cX5_word) (maxL := 5) (by decide) rfl (Nat.le_of_ble_eq_true rfl) ?_
  intro p e s m args below meth c A H0 Q ls hx hb hml hown hts hK hN hA hP hD hS hl hret
  have hown : s.vm.findClass RX5 = some m.cls := hown
  have hl : lv_has ls 5 [(0, .ref (q 0)), (1, .int p0), (2, .int p1), (3, .int p2)] := hl
  generalize hH : H0 = H at hP ⊢
  have hS : va_S A H0 H [] := by rw [← hH]; exact hS
  clear hH
  unfold f_X5_word at hf
  refine lv_iload_n hx hb dX5_word_0 rfl (lv_at hl 1 rfl) ?_
  obtain ⟨o1, ho1, hf⟩ := bd_el hf
  refine kc0_i (D := D) (va_runS (As := [.int p0]) (rest := []) ⟨hx, hb, hml, hown, hts⟩ ((k_X5_isWord l D K p0 o1 ho1) H.size) (va_cwS 1 hts gX5_word_X5_isWord rfl rfl rfl yd_X5_isWord ⟨Nat.le_of_ble_eq_true rfl, Nat.le_of_ble_eq_true rfl⟩) (kPreS va_P_nil (va_D_nil (A := fun _ => True)) hK hN) rfl rfl hl.1 rfl (lv_room (Nat.le_of_ble_eq_true rfl)) dX5_word_1 ⟨Nat.le_of_ble_eq_true rfl, Nat.le_of_ble_eq_true rfl⟩) hP hS hA (fun hzo1 H locs hP hS => ?_)
  refine lv_if_ne (tgt := 9) hx hb dX5_word_4 (by decide) (fun c2 => ?_) (fun c2 => ?_)
  · rw [if_neg c2] at hf
    refine lv_iload_n hx hb dX5_word_9 rfl (lv_at hl 2 rfl) ?_
    refine lv_i2l (v := p1.toInt64) hx hb dX5_word_10 rfl ?_
    refine lv_lconst (v := 0) hx hb dX5_word_11 (by decide) ?_
    refine lv_ldc2 hx hb hown (hts (.constantLong RX5 81 (99)) (List.mem_of_getElem? (i := 1) rfl)) dX5_word_12 ?_
    obtain ⟨o3, ho3, hf⟩ := bd_el hf
    refine kc0_i (D := D) (va_runS (As := [.long p1.toInt64, .long 0, .long 99]) (rest := []) ⟨hx, hb, hml, hown, hts⟩ ((k_X5_in l D K p1.toInt64 (0) (99) o3 ho3) H.size) (va_cwS 3 hts gX5_word_X5_in rfl rfl rfl yd_X5_in ⟨Nat.le_of_ble_eq_true rfl, Nat.le_of_ble_eq_true rfl⟩) (kPreS va_P_nil (va_D_nil (A := fun _ => True)) hK hN) rfl rfl hl.1 rfl (lv_room (Nat.le_of_ble_eq_true rfl)) dX5_word_15 ⟨Nat.le_of_ble_eq_true rfl, Nat.le_of_ble_eq_true rfl⟩) hP hS hA (fun hzo3 H locs hP hS => ?_)
    refine lv_if_eq (tgt := 33) hx hb dX5_word_18 (by decide) (fun c4 => ?_) (fun c4 => ?_)
    · rw [if_pos c4] at hf
      refine lv_bipush (v := (-2)) hx hb dX5_word_33 (by decide) ?_
      obtain rfl := Option.some.inj hf
      exact hret rfl rfl rfl hP hD hS dX5_word_35
    · rw [if_neg c4] at hf
      refine lv_iload_n hx hb dX5_word_21 rfl (lv_at hl 3 rfl) ?_
      refine lv_i2l (v := p2.toInt64) hx hb dX5_word_22 rfl ?_
      refine lv_lconst (v := 0) hx hb dX5_word_23 (by decide) ?_
      refine lv_ldc2 hx hb hown (hts (.constantLong RX5 83 (2)) (List.mem_of_getElem? (i := 2) rfl)) dX5_word_24 ?_
      obtain ⟨o5, ho5, hf⟩ := bd_el hf
      refine kc0_i (D := D) (va_runS (As := [.long p2.toInt64, .long 0, .long 2]) (rest := []) ⟨hx, hb, hml, hown, hts⟩ ((k_X5_in l D K p2.toInt64 (0) (2) o5 ho5) H.size) (va_cwS 3 hts gX5_word_X5_in rfl rfl rfl yd_X5_in ⟨Nat.le_of_ble_eq_true rfl, Nat.le_of_ble_eq_true rfl⟩) (kPreS va_P_nil (va_D_nil (A := fun _ => True)) hK hN) rfl rfl hl.1 rfl (lv_room (Nat.le_of_ble_eq_true rfl)) dX5_word_27 ⟨Nat.le_of_ble_eq_true rfl, Nat.le_of_ble_eq_true rfl⟩) hP hS hA (fun hzo5 H locs hP hS => ?_)
      refine lv_if_ne (tgt := 36) hx hb dX5_word_30 (by decide) (fun c6 => ?_) (fun c6 => ?_)
      · rw [if_neg c6] at hf
        refine lv_aload_n hx hb dX5_word_36 rfl (lv_at hl 0 rfl) ?_
        refine va_get (D := D) (ci := 5) (v := .ref (q 1)) (C := RX5) (T := TX5) (N := 33) hx hb hts inX5_word_X5 hown hK hP 0 rfl rfl 0 (by decide) (hts (.fieldLink RX5 7 "WordScalesModel" "weight" "[I") (List.mem_of_getElem? (i := 3) rfl)) (fun _ h9 => h9) rfl dX5_word_37 ?_
        refine lv_iload_n hx hb dX5_word_40 rfl (lv_at hl 1 rfl) ?_
        obtain ⟨v7, hf⟩ := chk_el hf
        refine va_iald (D := D) (f := vweight) hx hb hK hP 1 0 rfl rfl v7 dX5_word_41 ?_
        refine lv_istore (lv' := [(4, .int (vweight (p0).toNatClampNeg)), (0, .ref (q 0)), (1, .int p0), (2, .int p1), (3, .int p2)]) hx hb dX5_word_42 hl (by decide) rfl (fun ls hl => ?_)
        refine lv_aload_n hx hb dX5_word_44 rfl (lv_at hl 1 rfl) ?_
        refine va_get (D := D) (ci := 5) (v := .ref (q 1)) (C := RX5) (T := TX5) (N := 33) hx hb hts inX5_word_X5 hown hK hP 0 rfl rfl 0 (by decide) (hts (.fieldLink RX5 7 "WordScalesModel" "weight" "[I") (List.mem_of_getElem? (i := 3) rfl)) (fun _ h9 => h9) rfl dX5_word_45 ?_
        refine lv_iload_n hx hb dX5_word_48 rfl (lv_at hl 2 rfl) ?_
        refine lv_iload_n hx hb dX5_word_49 rfl (lv_at hl 3 rfl) ?_
        refine va_iast (D := D) (f := vweight) hx hb hK hP hD hS 1 0 rfl rfl v7 dX5_word_50 (fun H locs hP hD hS => ?_)
        have hP : va_P D vwCl (mdW K q (upd vweight (p0).toNatClampNeg p1) vkind vrhymes vpurse vhas vwishes vwishMany vsightLeft vsightRight vsightHow vsights vpad vpadMany vact vwho vwhich vwhom vacts vplace vopenMany vended vspoken vheaviest vheaviestWeight vhad vbadAct vbadWhy vbrings vbringsThen vkept visKept vkeptAt visWriting) H := hP
        have hD : va_D A (mdW K q (upd vweight (p0).toNatClampNeg p1) vkind vrhymes vpurse vhas vwishes vwishMany vsightLeft vsightRight vsightHow vsights vpad vpadMany vact vwho vwhich vwhom vacts vplace vopenMany vended vspoken vheaviest vheaviestWeight vhad vbadAct vbadWhy vbrings vbringsThen vkept visKept vkeptAt visWriting) := hD
        refine lv_aload_n hx hb dX5_word_51 rfl (lv_at hl 1 rfl) ?_
        refine va_get (D := D) (ci := 5) (v := .ref (q 2)) (C := RX5) (T := TX5) (N := 33) hx hb hts inX5_word_X5 hown hK hP 0 rfl rfl 1 (by decide) (hts (.fieldLink RX5 13 "WordScalesModel" "kind" "[I") (List.mem_of_getElem? (i := 4) rfl)) (fun _ h9 => h9) rfl dX5_word_52 ?_
        refine lv_iload_n hx hb dX5_word_55 rfl (lv_at hl 2 rfl) ?_
        refine lv_iload_n hx hb dX5_word_56 rfl (lv_at hl 4 rfl) ?_
        refine va_iast (D := D) (f := vkind) hx hb hK hP hD hS 2 0 rfl rfl v7 dX5_word_57 (fun H locs hP hD hS => ?_)
        have hP : va_P D vwCl (mdW K q (upd vweight (p0).toNatClampNeg p1) (upd vkind (p0).toNatClampNeg p2) vrhymes vpurse vhas vwishes vwishMany vsightLeft vsightRight vsightHow vsights vpad vpadMany vact vwho vwhich vwhom vacts vplace vopenMany vended vspoken vheaviest vheaviestWeight vhad vbadAct vbadWhy vbrings vbringsThen vkept visKept vkeptAt visWriting) H := hP
        have hD : va_D A (mdW K q (upd vweight (p0).toNatClampNeg p1) (upd vkind (p0).toNatClampNeg p2) vrhymes vpurse vhas vwishes vwishMany vsightLeft vsightRight vsightHow vsights vpad vpadMany vact vwho vwhich vwhom vacts vplace vopenMany vended vspoken vheaviest vheaviestWeight vhad vbadAct vbadWhy vbrings vbringsThen vkept visKept vkeptAt visWriting) := hD
        refine lv_iload hx hb dX5_word_58 (lv_at hl 0 rfl) ?_
        obtain rfl := Option.some.inj hf
        exact hret rfl rfl rfl hP hD hS dX5_word_60
      · rw [if_pos c6] at hf
        refine lv_bipush (v := (-2)) hx hb dX5_word_33 (by decide) ?_
        obtain rfl := Option.some.inj hf
        exact hret rfl rfl rfl hP hD hS dX5_word_35
  · rw [if_pos c2] at hf
    refine lv_iconst (v := (-1)) hx hb dX5_word_7 (by decide) ?_
    obtain rfl := Option.some.inj hf
    exact hret rfl rfl rfl hP hD hS dX5_word_8
def s_X5_rhymesOf_4 (vrhymes : Nat → Int32) (p0 : Int32) (x : Int32 × Int32) : Option ((Int32 × Int32) ⊕ (Int32 × Int32)) := if 12 ≤ x.2 then (some (.inr (x.1, x.2))) else (if x.2 = p0 then (some (.inl ((x.1 ||| 0), (x.2 + 1)))) else (chk x.2 12 (chk p0 12 (if (vrhymes (x.2).toNatClampNeg) = (vrhymes (p0).toNatClampNeg) then (some (.inl ((x.1 ||| (1 <<< (x.2 &&& 31))), (x.2 + 1)))) else (some (.inl ((x.1 ||| 0), (x.2 + 1))))))))
def f_X5_rhymesOf (vrhymes : Nat → Int32) (p0 : Int32) : Option (Int32) := ob (wh (s_X5_rhymesOf_4 vrhymes p0) 5000 (0, 0)) (fun r1 => some r1.1)
theorem inX5_rhymesOf_X5 : ∀ w ∈ wsX50, w ∈ wsX5_rhymesOf := fun w h => List.mem_cons_of_mem _ (List.mem_append_right _ h)
theorem yd_X5_rhymesOf : yX5_rhymesOf.cls ≠ "java/lang/invoke/MethodHandle" ∧ yX5_rhymesOf.cls ≠ "java/lang/invoke/VarHandle" ∧ (parseMethodDescriptor yX5_rhymesOf.desc).map (fun d => d.parameters.length) = some 1 := by decide +kernel
abbrev rmX5_rhymesOf : Room := { frames := 0, cells := 0, slots := 0, locals := 0 }
set_option maxHeartbeats 4000000 in
set_option maxRecDepth 100000 in
theorem k_X5_rhymesOf (l : Launch) (D : va_G) (K : Nat → ClassId) (q : Nat → Nat) (vweight : Nat → Int32) (vkind : Nat → Int32) (vrhymes : Nat → Int32) (vpurse : Nat → Int32) (vhas : Nat → Int32) (vwishes : Nat → Int32) (vwishMany : Int32) (vsightLeft : Nat → Int32) (vsightRight : Nat → Int32) (vsightHow : Nat → Int32) (vsights : Int32) (vpad : Nat → Int32) (vpadMany : Int32) (vact : Nat → Int32) (vwho : Nat → Int32) (vwhich : Nat → Int32) (vwhom : Nat → Int32) (vacts : Int32) (vplace : Int32) (vopenMany : Int32) (vended : Int32) (vspoken : Int32) (vheaviest : Int32) (vheaviestWeight : Int32) (vhad : Nat → Int32) (vbadAct : Int32) (vbadWhy : Int32) (vbrings : Nat → Int64) (vbringsThen : Nat → Int64) (vkept : Nat → Int32) (visKept : Nat → Int32) (vkeptAt : Int32) (visWriting : Int32) (p0 : Int32) (out : Int32) (hf : f_X5_rhymesOf vrhymes p0 = some out) : kI l D K .int yX5_rhymesOf wsX5_rhymesOf rmX5_rhymesOf [.ref (q 0), .int p0] (mdW K q vweight vkind vrhymes vpurse vhas vwishes vwishMany vsightLeft vsightRight vsightHow vsights vpad vpadMany vact vwho vwhich vwhom vacts vplace vopenMany vended vspoken vheaviest vheaviestWeight vhad vbadAct vbadWhy vbrings vbringsThen vkept visKept vkeptAt visWriting) out (mdW K q vweight vkind vrhymes vpurse vhas vwishes vwishMany vsightLeft vsightRight vsightHow vsights vpad vpadMany vact vwho vwhich vwhom vacts vplace vopenMany vended vspoken vheaviest vheaviestWeight vhad vbadAct vbadWhy vbrings vbringsThen vkept visKept vkeptAt visWriting) := by
  refine kI.of (cc := cX5_rhymesOf) (maxL := 4) (by decide) rfl (Nat.le_of_ble_eq_true rfl) ?_
  intro p e s m args below meth c A H0 Q ls hx hb hml hown hts hK hN hA hP hD hS hl hret
  have hown : s.vm.findClass RX5 = some m.cls := hown
  have hl : lv_has ls 4 [(0, .ref (q 0)), (1, .int p0)] := hl
  generalize hH : H0 = H at hP ⊢
  have hS : va_S A H0 H [] := by rw [← hH]; exact hS
  clear hH
  unfold f_X5_rhymesOf at hf
  refine lv_iconst (v := 0) hx hb dX5_rhymesOf_0 (by decide) ?_
  refine lv_istore_n (lv' := [(2, .int 0), (0, .ref (q 0)), (1, .int p0)]) hx hb dX5_rhymesOf_1 rfl hl (by decide) rfl (fun ls hl => ?_)
  refine lv_iconst (v := 0) hx hb dX5_rhymesOf_2 (by decide) ?_
  refine lv_istore_n (lv' := [(3, .int 0), (2, .int 0), (0, .ref (q 0)), (1, .int p0)]) hx hb dX5_rhymesOf_3 rfl hl (by decide) rfl (fun ls hl => ?_)
  obtain ⟨r1, hr1, hf⟩ := ob_el hf
  have post4 : ∀ (e4_l2 : Int32) (e4_l3 : Int32) (H : Heap) (locs : List Loc) (ls : Array Slot), (some e4_l2) = some out → va_P D vwCl (mdW K q vweight vkind vrhymes vpurse vhas vwishes vwishMany vsightLeft vsightRight vsightHow vsights vpad vpadMany vact vwho vwhich vwhom vacts vplace vopenMany vended vspoken vheaviest vheaviestWeight vhad vbadAct vbadWhy vbrings vbringsThen vkept visKept vkeptAt visWriting) H → va_D A (mdW K q vweight vkind vrhymes vpurse vhas vwishes vwishMany vsightLeft vsightRight vsightHow vsights vpad vpadMany vact vwho vwhich vwhom vacts vplace vopenMany vended vspoken vheaviest vheaviestWeight vhad vbadAct vbadWhy vbrings vbringsThen vkept visKept vkeptAt visWriting) → va_S A H0 H locs → lv_has ls 4 [(3, .int e4_l3), (2, .int e4_l2), (0, .ref (q 0)), (1, .int p0)] → W p l e rmX5_rhymesOf s m args below meth c H locs 0 0 Q (F0 m 46 ls []) := by
    intro e4_l2 e4_l3 H locs ls hf hP hD hS hl
    refine lv_iload_n hx hb dX5_rhymesOf_46 rfl (lv_at hl 1 rfl) ?_
    obtain rfl := Option.some.inj hf
    exact hret rfl rfl rfl hP hD hS dX5_rhymesOf_47
  have lp4 : ∀ (fu : Nat) (x4_l2 : Int32) (x4_l3 : Int32) (H : Heap) (locs : List Loc) (ls : Array Slot), wh (s_X5_rhymesOf_4 vrhymes p0) fu (x4_l2, x4_l3) = some r1 → va_P D vwCl (mdW K q vweight vkind vrhymes vpurse vhas vwishes vwishMany vsightLeft vsightRight vsightHow vsights vpad vpadMany vact vwho vwhich vwhom vacts vplace vopenMany vended vspoken vheaviest vheaviestWeight vhad vbadAct vbadWhy vbrings vbringsThen vkept visKept vkeptAt visWriting) H → va_D A (mdW K q vweight vkind vrhymes vpurse vhas vwishes vwishMany vsightLeft vsightRight vsightHow vsights vpad vpadMany vact vwho vwhich vwhom vacts vplace vopenMany vended vspoken vheaviest vheaviestWeight vhad vbadAct vbadWhy vbrings vbringsThen vkept visKept vkeptAt visWriting) → va_S A H0 H locs → lv_has ls 4 [(3, .int x4_l3), (2, .int x4_l2), (0, .ref (q 0)), (1, .int p0)] → W p l e rmX5_rhymesOf s m args below meth c H locs 0 0 Q (F0 m 4 ls []) := by
    intro fu
    induction fu with
    | zero => intro x4_l2 x4_l3 H locs ls hw4; cases hw4
    | succ fu ih4 =>
      intro x4_l2 x4_l3 H locs ls hw4 hP hD hS hl
      obtain ⟨o4_, hs4, hw4⟩ := wh_el hw4
      unfold s_X5_rhymesOf_4 at hs4
      dsimp only at hs4
      refine lv_iload_n hx hb dX5_rhymesOf_4 rfl (lv_at hl 0 rfl) ?_
      refine lv_bipush (v := 12) hx hb dX5_rhymesOf_5 (by decide) ?_
      refine lv_icmp_ge (tgt := 46) hx hb dX5_rhymesOf_7 (by decide) (fun c2 => ?_) (fun c2 => ?_)
      · rw [if_pos c2] at hs4
        obtain rfl := Option.some.inj hs4
        have e9 := Option.some.inj hw4
        rw [← e9] at hf
        exact post4 _ _ _ _ _ hf hP hD hS (lv_sub hl [0, 1, 2, 3] rfl)
      · rw [if_neg c2] at hs4
        refine lv_iload_n hx hb dX5_rhymesOf_10 rfl (lv_at hl 1 rfl) ?_
        refine lv_iload_n hx hb dX5_rhymesOf_11 rfl (lv_at hl 0 rfl) ?_
        refine lv_iload_n hx hb dX5_rhymesOf_12 rfl (lv_at hl 3 rfl) ?_
        refine lv_icmp_eq (tgt := 37) hx hb dX5_rhymesOf_13 (by decide) (fun c3 => ?_) (fun c3 => ?_)
        · rw [if_pos c3] at hs4
          refine lv_iconst (v := 0) hx hb dX5_rhymesOf_37 (by decide) ?_
          refine lv_ior hx hb dX5_rhymesOf_38 ?_
          refine lv_istore_n (lv' := [(2, .int (x4_l2 ||| 0)), (3, .int x4_l3), (0, .ref (q 0)), (1, .int p0)]) hx hb dX5_rhymesOf_39 rfl hl (by decide) rfl (fun ls hl => ?_)
          refine lv_iinc (v := (x4_l3 + 1)) (lv' := [(3, .int (x4_l3 + 1)), (2, .int (x4_l2 ||| 0)), (0, .ref (q 0)), (1, .int p0)]) hx hb dX5_rhymesOf_40 hl (k := 1) rfl (by rfl) (by decide) rfl (fun ls hl => ?_)
          refine lv_goto (tgt := 4) hx hb dX5_rhymesOf_43 (by decide) ?_
          obtain rfl := Option.some.inj hs4
          exact ih4 _ _ _ _ _ hw4 hP hD hS (lv_sub hl [0, 1, 2, 3] rfl)
        · rw [if_neg c3] at hs4
          refine lv_aload_n hx hb dX5_rhymesOf_16 rfl (lv_at hl 2 rfl) ?_
          refine va_get (D := D) (ci := 5) (v := .ref (q 3)) (C := RX5) (T := TX5) (N := 33) hx hb hts inX5_rhymesOf_X5 hown hK hP 0 rfl rfl 2 (by decide) (hts (.fieldLink RX5 16 "WordScalesModel" "rhymes" "[I") (List.mem_of_getElem? (i := 1) rfl)) (fun _ h9 => h9) rfl dX5_rhymesOf_17 ?_
          refine lv_iload_n hx hb dX5_rhymesOf_20 rfl (lv_at hl 0 rfl) ?_
          obtain ⟨v4, hs4⟩ := chk_el hs4
          refine va_iald (D := D) (f := vrhymes) hx hb hK hP 3 0 rfl rfl v4 dX5_rhymesOf_21 ?_
          refine lv_aload_n hx hb dX5_rhymesOf_22 rfl (lv_at hl 2 rfl) ?_
          refine va_get (D := D) (ci := 5) (v := .ref (q 3)) (C := RX5) (T := TX5) (N := 33) hx hb hts inX5_rhymesOf_X5 hown hK hP 0 rfl rfl 2 (by decide) (hts (.fieldLink RX5 16 "WordScalesModel" "rhymes" "[I") (List.mem_of_getElem? (i := 1) rfl)) (fun _ h9 => h9) rfl dX5_rhymesOf_23 ?_
          refine lv_iload_n hx hb dX5_rhymesOf_26 rfl (lv_at hl 3 rfl) ?_
          obtain ⟨v5, hs4⟩ := chk_el hs4
          refine va_iald (D := D) (f := vrhymes) hx hb hK hP 3 0 rfl rfl v5 dX5_rhymesOf_27 ?_
          refine lv_icmp_ne (tgt := 37) hx hb dX5_rhymesOf_28 (by decide) (fun c6 => ?_) (fun c6 => ?_)
          · rw [if_neg c6] at hs4
            refine lv_iconst (v := 0) hx hb dX5_rhymesOf_37 (by decide) ?_
            refine lv_ior hx hb dX5_rhymesOf_38 ?_
            refine lv_istore_n (lv' := [(2, .int (x4_l2 ||| 0)), (3, .int x4_l3), (0, .ref (q 0)), (1, .int p0)]) hx hb dX5_rhymesOf_39 rfl hl (by decide) rfl (fun ls hl => ?_)
            refine lv_iinc (v := (x4_l3 + 1)) (lv' := [(3, .int (x4_l3 + 1)), (2, .int (x4_l2 ||| 0)), (0, .ref (q 0)), (1, .int p0)]) hx hb dX5_rhymesOf_40 hl (k := 1) rfl (by rfl) (by decide) rfl (fun ls hl => ?_)
            refine lv_goto (tgt := 4) hx hb dX5_rhymesOf_43 (by decide) ?_
            obtain rfl := Option.some.inj hs4
            exact ih4 _ _ _ _ _ hw4 hP hD hS (lv_sub hl [0, 1, 2, 3] rfl)
          · rw [if_pos c6] at hs4
            refine lv_iconst (v := 1) hx hb dX5_rhymesOf_31 (by decide) ?_
            refine lv_iload_n hx hb dX5_rhymesOf_32 rfl (lv_at hl 0 rfl) ?_
            refine lv_ishl hx hb dX5_rhymesOf_33 ?_
            refine lv_goto (tgt := 38) hx hb dX5_rhymesOf_34 (by decide) ?_
            refine lv_ior hx hb dX5_rhymesOf_38 ?_
            refine lv_istore_n (lv' := [(2, .int (x4_l2 ||| (1 <<< (x4_l3 &&& 31)))), (3, .int x4_l3), (0, .ref (q 0)), (1, .int p0)]) hx hb dX5_rhymesOf_39 rfl hl (by decide) rfl (fun ls hl => ?_)
            refine lv_iinc (v := (x4_l3 + 1)) (lv' := [(3, .int (x4_l3 + 1)), (2, .int (x4_l2 ||| (1 <<< (x4_l3 &&& 31)))), (0, .ref (q 0)), (1, .int p0)]) hx hb dX5_rhymesOf_40 hl (k := 1) rfl (by rfl) (by decide) rfl (fun ls hl => ?_)
            refine lv_goto (tgt := 4) hx hb dX5_rhymesOf_43 (by decide) ?_
            obtain rfl := Option.some.inj hs4
            exact ih4 _ _ _ _ _ hw4 hP hD hS (lv_sub hl [0, 1, 2, 3] rfl)
  exact lp4 5000 _ _ _ _ _ hr1 hP hD hS (lv_sub hl [0, 1, 2, 3] rfl)
def s_X5_rhyme_39 (vrhymes : Nat → Int32) (p0 : Int32) (p1 : Int32) (x : Int32 × (Nat → Int32)) : Option ((Int32 × (Nat → Int32)) ⊕ (Int32 × (Nat → Int32))) := if 12 ≤ x.1 then (some (.inr (x.1, x.2))) else (chk x.1 12 (if (x.2 (x.1).toNatClampNeg) = (vrhymes (p1).toNatClampNeg) then (some (.inl ((x.1 + 1), (upd x.2 (x.1).toNatClampNeg (vrhymes (p0).toNatClampNeg))))) else (some (.inl ((x.1 + 1), (upd x.2 (x.1).toNatClampNeg (x.2 (x.1).toNatClampNeg)))))))
def f_X5_rhyme (vrhymes : Nat → Int32) (p0 : Int32) (p1 : Int32) : Option (Int32 × (Nat → Int32)) := bd (f_X5_isWord p0) (fun o1 => if o1 = 0 then (some ((-1), vrhymes)) else (bd (f_X5_isWord p1) (fun o3 => if o3 = 0 then (some ((-1), vrhymes)) else (if p0 = p1 then (some ((-1), vrhymes)) else (chk p1 12 (chk p0 12 (ob (wh (s_X5_rhyme_39 vrhymes p0 p1) 5000 (0, vrhymes)) (fun r8 => ob (f_X5_rhymesOf r8.2 p0) (fun o9 => ob (f_X5_ones o9) (fun o10 => some (o10, r8.2)))))))))))
theorem inX5_rhyme_X5 : ∀ w ∈ wsX50, w ∈ wsX5_rhyme := fun w h => List.mem_cons_of_mem _ (List.mem_append_right _ h)
theorem yd_X5_rhyme : yX5_rhyme.cls ≠ "java/lang/invoke/MethodHandle" ∧ yX5_rhyme.cls ≠ "java/lang/invoke/VarHandle" ∧ (parseMethodDescriptor yX5_rhyme.desc).map (fun d => d.parameters.length) = some 2 := by decide +kernel
abbrev rmX5_rhyme : Room := { frames := 2, cells := 0, slots := 0, locals := 45 }
set_option maxHeartbeats 4000000 in
set_option maxRecDepth 100000 in
theorem k_X5_rhyme (l : Launch) (D : va_G) (K : Nat → ClassId) (q : Nat → Nat) (vweight : Nat → Int32) (vkind : Nat → Int32) (vrhymes : Nat → Int32) (vpurse : Nat → Int32) (vhas : Nat → Int32) (vwishes : Nat → Int32) (vwishMany : Int32) (vsightLeft : Nat → Int32) (vsightRight : Nat → Int32) (vsightHow : Nat → Int32) (vsights : Int32) (vpad : Nat → Int32) (vpadMany : Int32) (vact : Nat → Int32) (vwho : Nat → Int32) (vwhich : Nat → Int32) (vwhom : Nat → Int32) (vacts : Int32) (vplace : Int32) (vopenMany : Int32) (vended : Int32) (vspoken : Int32) (vheaviest : Int32) (vheaviestWeight : Int32) (vhad : Nat → Int32) (vbadAct : Int32) (vbadWhy : Int32) (vbrings : Nat → Int64) (vbringsThen : Nat → Int64) (vkept : Nat → Int32) (visKept : Nat → Int32) (vkeptAt : Int32) (visWriting : Int32) (p0 : Int32) (p1 : Int32) (out : Int32 × (Nat → Int32)) (hf : f_X5_rhyme vrhymes p0 p1 = some out) : kI l D K .int yX5_rhyme wsX5_rhyme rmX5_rhyme [.ref (q 0), .int p0, .int p1] (mdW K q vweight vkind vrhymes vpurse vhas vwishes vwishMany vsightLeft vsightRight vsightHow vsights vpad vpadMany vact vwho vwhich vwhom vacts vplace vopenMany vended vspoken vheaviest vheaviestWeight vhad vbadAct vbadWhy vbrings vbringsThen vkept visKept vkeptAt visWriting) out.1 (mdW K q vweight vkind out.2 vpurse vhas vwishes vwishMany vsightLeft vsightRight vsightHow vsights vpad vpadMany vact vwho vwhich vwhom vacts vplace vopenMany vended vspoken vheaviest vheaviestWeight vhad vbadAct vbadWhy vbrings vbringsThen vkept visKept vkeptAt visWriting) := by
  refine kI.of (cc := cX5_rhyme) (maxL := 6) (by decide) rfl (Nat.le_of_ble_eq_true rfl) ?_
  intro p e s m args below meth c A H0 Q ls hx hb hml hown hts hK hN hA hP hD hS hl hret
  have hown : s.vm.findClass RX5 = some m.cls := hown
  have hl : lv_has ls 6 [(0, .ref (q 0)), (1, .int p0), (2, .int p1)] := hl
  generalize hH : H0 = H at hP ⊢
  have hS : va_S A H0 H [] := by rw [← hH]; exact hS
  clear hH
  unfold f_X5_rhyme at hf
  refine lv_iload_n hx hb dX5_rhyme_0 rfl (lv_at hl 1 rfl) ?_
  obtain ⟨o1, ho1, hf⟩ := bd_el hf
  refine kc0_i (D := D) (va_runS (As := [.int p0]) (rest := []) ⟨hx, hb, hml, hown, hts⟩ ((k_X5_isWord l D K p0 o1 ho1) H.size) (va_cwS 1 hts gX5_rhyme_X5_isWord rfl rfl rfl yd_X5_isWord ⟨Nat.le_of_ble_eq_true rfl, Nat.le_of_ble_eq_true rfl⟩) (kPreS va_P_nil (va_D_nil (A := fun _ => True)) hK hN) rfl rfl hl.1 rfl (lv_room (Nat.le_of_ble_eq_true rfl)) dX5_rhyme_1 ⟨Nat.le_of_ble_eq_true rfl, Nat.le_of_ble_eq_true rfl⟩) hP hS hA (fun hzo1 H locs hP hS => ?_)
  refine lv_if_eq (tgt := 19) hx hb dX5_rhyme_4 (by decide) (fun c2 => ?_) (fun c2 => ?_)
  · rw [if_pos c2] at hf
    refine lv_iconst (v := (-1)) hx hb dX5_rhyme_19 (by decide) ?_
    obtain rfl := Option.some.inj hf
    exact hret rfl rfl rfl hP hD hS dX5_rhyme_20
  · rw [if_neg c2] at hf
    refine lv_iload_n hx hb dX5_rhyme_7 rfl (lv_at hl 2 rfl) ?_
    obtain ⟨o3, ho3, hf⟩ := bd_el hf
    refine kc0_i (D := D) (va_runS (As := [.int p1]) (rest := []) ⟨hx, hb, hml, hown, hts⟩ ((k_X5_isWord l D K p1 o3 ho3) H.size) (va_cwS 1 hts gX5_rhyme_X5_isWord rfl rfl rfl yd_X5_isWord ⟨Nat.le_of_ble_eq_true rfl, Nat.le_of_ble_eq_true rfl⟩) (kPreS va_P_nil (va_D_nil (A := fun _ => True)) hK hN) rfl rfl hl.1 rfl (lv_room (Nat.le_of_ble_eq_true rfl)) dX5_rhyme_8 ⟨Nat.le_of_ble_eq_true rfl, Nat.le_of_ble_eq_true rfl⟩) hP hS hA (fun hzo3 H locs hP hS => ?_)
    refine lv_if_eq (tgt := 19) hx hb dX5_rhyme_11 (by decide) (fun c4 => ?_) (fun c4 => ?_)
    · rw [if_pos c4] at hf
      refine lv_iconst (v := (-1)) hx hb dX5_rhyme_19 (by decide) ?_
      obtain rfl := Option.some.inj hf
      exact hret rfl rfl rfl hP hD hS dX5_rhyme_20
    · rw [if_neg c4] at hf
      refine lv_iload_n hx hb dX5_rhyme_14 rfl (lv_at hl 1 rfl) ?_
      refine lv_iload_n hx hb dX5_rhyme_15 rfl (lv_at hl 2 rfl) ?_
      refine lv_icmp_ne (tgt := 21) hx hb dX5_rhyme_16 (by decide) (fun c5 => ?_) (fun c5 => ?_)
      · rw [if_neg c5] at hf
        refine lv_aload_n hx hb dX5_rhyme_21 rfl (lv_at hl 0 rfl) ?_
        refine va_get (D := D) (ci := 5) (v := .ref (q 3)) (C := RX5) (T := TX5) (N := 33) hx hb hts inX5_rhyme_X5 hown hK hP 0 rfl rfl 2 (by decide) (hts (.fieldLink RX5 16 "WordScalesModel" "rhymes" "[I") (List.mem_of_getElem? (i := 1) rfl)) (fun _ h9 => h9) rfl dX5_rhyme_22 ?_
        refine lv_iload_n hx hb dX5_rhyme_25 rfl (lv_at hl 2 rfl) ?_
        obtain ⟨v6, hf⟩ := chk_el hf
        refine va_iald (D := D) (f := vrhymes) hx hb hK hP 3 0 rfl rfl v6 dX5_rhyme_26 ?_
        refine lv_istore_n (lv' := [(3, .int (vrhymes (p1).toNatClampNeg)), (0, .ref (q 0)), (1, .int p0), (2, .int p1)]) hx hb dX5_rhyme_27 rfl hl (by decide) rfl (fun ls hl => ?_)
        refine lv_aload_n hx hb dX5_rhyme_28 rfl (lv_at hl 1 rfl) ?_
        refine va_get (D := D) (ci := 5) (v := .ref (q 3)) (C := RX5) (T := TX5) (N := 33) hx hb hts inX5_rhyme_X5 hown hK hP 0 rfl rfl 2 (by decide) (hts (.fieldLink RX5 16 "WordScalesModel" "rhymes" "[I") (List.mem_of_getElem? (i := 1) rfl)) (fun _ h9 => h9) rfl dX5_rhyme_29 ?_
        refine lv_iload_n hx hb dX5_rhyme_32 rfl (lv_at hl 2 rfl) ?_
        obtain ⟨v7, hf⟩ := chk_el hf
        refine va_iald (D := D) (f := vrhymes) hx hb hK hP 3 0 rfl rfl v7 dX5_rhyme_33 ?_
        refine lv_istore (lv' := [(4, .int (vrhymes (p0).toNatClampNeg)), (3, .int (vrhymes (p1).toNatClampNeg)), (0, .ref (q 0)), (1, .int p0), (2, .int p1)]) hx hb dX5_rhyme_34 hl (by decide) rfl (fun ls hl => ?_)
        refine lv_iconst (v := 0) hx hb dX5_rhyme_36 (by decide) ?_
        refine lv_istore (lv' := [(5, .int 0), (4, .int (vrhymes (p0).toNatClampNeg)), (3, .int (vrhymes (p1).toNatClampNeg)), (0, .ref (q 0)), (1, .int p0), (2, .int p1)]) hx hb dX5_rhyme_37 hl (by decide) rfl (fun ls hl => ?_)
        obtain ⟨r8, hr8, hf⟩ := ob_el hf
        have post39 : ∀ (e39_l5 : Int32) (e39_rhymes : Nat → Int32) (H : Heap) (locs : List Loc) (ls : Array Slot), (ob (f_X5_rhymesOf e39_rhymes p0) (fun o9 => ob (f_X5_ones o9) (fun o10 => some (o10, e39_rhymes)))) = some out → va_P D vwCl (mdW K q vweight vkind e39_rhymes vpurse vhas vwishes vwishMany vsightLeft vsightRight vsightHow vsights vpad vpadMany vact vwho vwhich vwhom vacts vplace vopenMany vended vspoken vheaviest vheaviestWeight vhad vbadAct vbadWhy vbrings vbringsThen vkept visKept vkeptAt visWriting) H → va_D A (mdW K q vweight vkind e39_rhymes vpurse vhas vwishes vwishMany vsightLeft vsightRight vsightHow vsights vpad vpadMany vact vwho vwhich vwhom vacts vplace vopenMany vended vspoken vheaviest vheaviestWeight vhad vbadAct vbadWhy vbrings vbringsThen vkept visKept vkeptAt visWriting) → va_S A H0 H locs → lv_has ls 6 [(5, .int e39_l5), (4, .int (vrhymes (p0).toNatClampNeg)), (3, .int (vrhymes (p1).toNatClampNeg)), (0, .ref (q 0)), (1, .int p0), (2, .int p1)] → W p l e rmX5_rhyme s m args below meth c H locs 0 0 Q (F0 m 82 ls []) := by
          intro e39_l5 e39_rhymes H locs ls hf hP hD hS hl
          refine lv_aload_n hx hb dX5_rhyme_82 rfl (lv_at hl 3 rfl) ?_
          refine lv_iload_n hx hb dX5_rhyme_83 rfl (lv_at hl 4 rfl) ?_
          obtain ⟨o9, ho9, hf⟩ := ob_el hf
          refine kcw_i (D := D) (va_runV (As := [.int p0]) (rest := []) ⟨hx, hb, hml, hown, hts⟩ ((k_X5_rhymesOf l D K q vweight vkind e39_rhymes vpurse vhas vwishes vwishMany vsightLeft vsightRight vsightHow vsights vpad vpadMany vact vwho vwhich vwhom vacts vplace vopenMany vended vspoken vheaviest vheaviestWeight vhad vbadAct vbadWhy vbrings vbringsThen vkept visKept vkeptAt visWriting p0 o9 ho9) H.size) (cwV 1 hts gX5_rhyme_X5_rhymesOf rfl rfl rfl ⟨rfl, yd_X5_rhymesOf⟩ ⟨Nat.le_of_ble_eq_true rfl, Nat.le_of_ble_eq_true rfl⟩) (kPreV (ci := 5) (q0 := 0) hP rfl rfl hP hD hK hN) rfl rfl hl.1 rfl (lv_room (Nat.le_of_ble_eq_true rfl)) dX5_rhyme_84 ⟨Nat.le_of_ble_eq_true rfl, Nat.le_of_ble_eq_true rfl⟩) hD hS hA (fun hzo9 H locs hP hD hS => ?_)
          have hP : va_P D vwCl (mdW K q vweight vkind e39_rhymes vpurse vhas vwishes vwishMany vsightLeft vsightRight vsightHow vsights vpad vpadMany vact vwho vwhich vwhom vacts vplace vopenMany vended vspoken vheaviest vheaviestWeight vhad vbadAct vbadWhy vbrings vbringsThen vkept visKept vkeptAt visWriting) H := hP
          have hD : va_D A (mdW K q vweight vkind e39_rhymes vpurse vhas vwishes vwishMany vsightLeft vsightRight vsightHow vsights vpad vpadMany vact vwho vwhich vwhom vacts vplace vopenMany vended vspoken vheaviest vheaviestWeight vhad vbadAct vbadWhy vbrings vbringsThen vkept visKept vkeptAt visWriting) := hD
          obtain ⟨o10, ho10, hf⟩ := ob_el hf
          refine kc0_i (D := D) (va_runS (As := [.int o9]) (rest := []) ⟨hx, hb, hml, hown, hts⟩ ((k_X5_ones l D K o9 o10 ho10) H.size) (va_cwS 1 hts gX5_rhyme_X5_ones rfl rfl rfl yd_X5_ones ⟨Nat.le_of_ble_eq_true rfl, Nat.le_of_ble_eq_true rfl⟩) (kPreS va_P_nil (va_D_nil (A := fun _ => True)) hK hN) rfl rfl hl.1 rfl (lv_room (Nat.le_of_ble_eq_true rfl)) dX5_rhyme_87 ⟨Nat.le_of_ble_eq_true rfl, Nat.le_of_ble_eq_true rfl⟩) hP hS hA (fun hzo10 H locs hP hS => ?_)
          obtain rfl := Option.some.inj hf
          exact hret rfl rfl rfl hP hD hS dX5_rhyme_90
        have lp39 : ∀ (fu : Nat) (x39_l5 : Int32) (x39_rhymes : Nat → Int32) (H : Heap) (locs : List Loc) (ls : Array Slot), wh (s_X5_rhyme_39 vrhymes p0 p1) fu (x39_l5, x39_rhymes) = some r8 → va_P D vwCl (mdW K q vweight vkind x39_rhymes vpurse vhas vwishes vwishMany vsightLeft vsightRight vsightHow vsights vpad vpadMany vact vwho vwhich vwhom vacts vplace vopenMany vended vspoken vheaviest vheaviestWeight vhad vbadAct vbadWhy vbrings vbringsThen vkept visKept vkeptAt visWriting) H → va_D A (mdW K q vweight vkind x39_rhymes vpurse vhas vwishes vwishMany vsightLeft vsightRight vsightHow vsights vpad vpadMany vact vwho vwhich vwhom vacts vplace vopenMany vended vspoken vheaviest vheaviestWeight vhad vbadAct vbadWhy vbrings vbringsThen vkept visKept vkeptAt visWriting) → va_S A H0 H locs → lv_has ls 6 [(5, .int x39_l5), (4, .int (vrhymes (p0).toNatClampNeg)), (3, .int (vrhymes (p1).toNatClampNeg)), (0, .ref (q 0)), (1, .int p0), (2, .int p1)] → W p l e rmX5_rhyme s m args below meth c H locs 0 0 Q (F0 m 39 ls []) := by
          intro fu
          induction fu with
          | zero => intro x39_l5 x39_rhymes H locs ls hw39; cases hw39
          | succ fu ih39 =>
            intro x39_l5 x39_rhymes H locs ls hw39 hP hD hS hl
            obtain ⟨o39_, hs39, hw39⟩ := wh_el hw39
            unfold s_X5_rhyme_39 at hs39
            dsimp only at hs39
            refine lv_iload hx hb dX5_rhyme_39 (lv_at hl 0 rfl) ?_
            refine lv_bipush (v := 12) hx hb dX5_rhyme_41 (by decide) ?_
            refine lv_icmp_ge (tgt := 82) hx hb dX5_rhyme_43 (by decide) (fun c11 => ?_) (fun c11 => ?_)
            · rw [if_pos c11] at hs39
              obtain rfl := Option.some.inj hs39
              have e9 := Option.some.inj hw39
              rw [← e9] at hf
              exact post39 _ _ _ _ _ hf hP hD hS (lv_sub hl [0, 1, 2, 3, 4, 5] rfl)
            · rw [if_neg c11] at hs39
              refine lv_aload_n hx hb dX5_rhyme_46 rfl (lv_at hl 3 rfl) ?_
              refine va_get (D := D) (ci := 5) (v := .ref (q 3)) (C := RX5) (T := TX5) (N := 33) hx hb hts inX5_rhyme_X5 hown hK hP 0 rfl rfl 2 (by decide) (hts (.fieldLink RX5 16 "WordScalesModel" "rhymes" "[I") (List.mem_of_getElem? (i := 1) rfl)) (fun _ h9 => h9) rfl dX5_rhyme_47 ?_
              refine lv_iload hx hb dX5_rhyme_50 (lv_at hl 0 rfl) ?_
              refine lv_aload_n hx hb dX5_rhyme_52 rfl (lv_at hl 3 rfl) ?_
              refine va_get (D := D) (ci := 5) (v := .ref (q 3)) (C := RX5) (T := TX5) (N := 33) hx hb hts inX5_rhyme_X5 hown hK hP 0 rfl rfl 2 (by decide) (hts (.fieldLink RX5 16 "WordScalesModel" "rhymes" "[I") (List.mem_of_getElem? (i := 1) rfl)) (fun _ h9 => h9) rfl dX5_rhyme_53 ?_
              refine lv_iload hx hb dX5_rhyme_56 (lv_at hl 0 rfl) ?_
              obtain ⟨v12, hs39⟩ := chk_el hs39
              refine va_iald (D := D) (f := x39_rhymes) hx hb hK hP 3 0 rfl rfl v12 dX5_rhyme_58 ?_
              refine lv_iload_n hx hb dX5_rhyme_59 rfl (lv_at hl 2 rfl) ?_
              refine lv_icmp_ne (tgt := 68) hx hb dX5_rhyme_60 (by decide) (fun c13 => ?_) (fun c13 => ?_)
              · rw [if_neg c13] at hs39
                refine lv_aload_n hx hb dX5_rhyme_68 rfl (lv_at hl 3 rfl) ?_
                refine va_get (D := D) (ci := 5) (v := .ref (q 3)) (C := RX5) (T := TX5) (N := 33) hx hb hts inX5_rhyme_X5 hown hK hP 0 rfl rfl 2 (by decide) (hts (.fieldLink RX5 16 "WordScalesModel" "rhymes" "[I") (List.mem_of_getElem? (i := 1) rfl)) (fun _ h9 => h9) rfl dX5_rhyme_69 ?_
                refine lv_iload hx hb dX5_rhyme_72 (lv_at hl 0 rfl) ?_
                refine va_iald (D := D) (f := x39_rhymes) hx hb hK hP 3 0 rfl rfl v12 dX5_rhyme_74 ?_
                refine va_iast (D := D) (f := x39_rhymes) hx hb hK hP hD hS 3 0 rfl rfl v12 dX5_rhyme_75 (fun H locs hP hD hS => ?_)
                have hP : va_P D vwCl (mdW K q vweight vkind (upd x39_rhymes (x39_l5).toNatClampNeg (x39_rhymes (x39_l5).toNatClampNeg)) vpurse vhas vwishes vwishMany vsightLeft vsightRight vsightHow vsights vpad vpadMany vact vwho vwhich vwhom vacts vplace vopenMany vended vspoken vheaviest vheaviestWeight vhad vbadAct vbadWhy vbrings vbringsThen vkept visKept vkeptAt visWriting) H := hP
                have hD : va_D A (mdW K q vweight vkind (upd x39_rhymes (x39_l5).toNatClampNeg (x39_rhymes (x39_l5).toNatClampNeg)) vpurse vhas vwishes vwishMany vsightLeft vsightRight vsightHow vsights vpad vpadMany vact vwho vwhich vwhom vacts vplace vopenMany vended vspoken vheaviest vheaviestWeight vhad vbadAct vbadWhy vbrings vbringsThen vkept visKept vkeptAt visWriting) := hD
                refine lv_iinc (v := (x39_l5 + 1)) (lv' := [(5, .int (x39_l5 + 1)), (4, .int (vrhymes (p0).toNatClampNeg)), (3, .int (vrhymes (p1).toNatClampNeg)), (0, .ref (q 0)), (1, .int p0), (2, .int p1)]) hx hb dX5_rhyme_76 hl (k := 0) rfl (by rfl) (by decide) rfl (fun ls hl => ?_)
                refine lv_goto (tgt := 39) hx hb dX5_rhyme_79 (by decide) ?_
                obtain rfl := Option.some.inj hs39
                exact ih39 _ _ _ _ _ hw39 hP hD hS (lv_sub hl [0, 1, 2, 3, 4, 5] rfl)
              · rw [if_pos c13] at hs39
                refine lv_iload hx hb dX5_rhyme_63 (lv_at hl 1 rfl) ?_
                refine lv_goto (tgt := 75) hx hb dX5_rhyme_65 (by decide) ?_
                refine va_iast (D := D) (f := x39_rhymes) hx hb hK hP hD hS 3 0 rfl rfl v12 dX5_rhyme_75 (fun H locs hP hD hS => ?_)
                have hP : va_P D vwCl (mdW K q vweight vkind (upd x39_rhymes (x39_l5).toNatClampNeg (vrhymes (p0).toNatClampNeg)) vpurse vhas vwishes vwishMany vsightLeft vsightRight vsightHow vsights vpad vpadMany vact vwho vwhich vwhom vacts vplace vopenMany vended vspoken vheaviest vheaviestWeight vhad vbadAct vbadWhy vbrings vbringsThen vkept visKept vkeptAt visWriting) H := hP
                have hD : va_D A (mdW K q vweight vkind (upd x39_rhymes (x39_l5).toNatClampNeg (vrhymes (p0).toNatClampNeg)) vpurse vhas vwishes vwishMany vsightLeft vsightRight vsightHow vsights vpad vpadMany vact vwho vwhich vwhom vacts vplace vopenMany vended vspoken vheaviest vheaviestWeight vhad vbadAct vbadWhy vbrings vbringsThen vkept visKept vkeptAt visWriting) := hD
                refine lv_iinc (v := (x39_l5 + 1)) (lv' := [(5, .int (x39_l5 + 1)), (4, .int (vrhymes (p0).toNatClampNeg)), (3, .int (vrhymes (p1).toNatClampNeg)), (0, .ref (q 0)), (1, .int p0), (2, .int p1)]) hx hb dX5_rhyme_76 hl (k := 0) rfl (by rfl) (by decide) rfl (fun ls hl => ?_)
                refine lv_goto (tgt := 39) hx hb dX5_rhyme_79 (by decide) ?_
                obtain rfl := Option.some.inj hs39
                exact ih39 _ _ _ _ _ hw39 hP hD hS (lv_sub hl [0, 1, 2, 3, 4, 5] rfl)
        exact lp39 5000 _ _ _ _ _ hr8 hP hD hS (lv_sub hl [0, 1, 2, 3, 4, 5] rfl)
      · rw [if_pos c5] at hf
        refine lv_iconst (v := (-1)) hx hb dX5_rhyme_19 (by decide) ?_
        obtain rfl := Option.some.inj hf
        exact hret rfl rfl rfl hP hD hS dX5_rhyme_20
def s_X5_freeRhyme_15 (vrhymes : Nat → Int32) (p0 : Int32) (x5_l3 : Int32) (x : Int32 × Int32) : Option ((Int32 × Int32) ⊕ (Int32 × Int32)) := if 12 ≤ x.2 then (some (.inr (x.1, x.2))) else (if x.1 = 0 then (if x.2 = p0 then (some (.inl (0, (x.2 + 1)))) else (chk x.2 12 (if (vrhymes (x.2).toNatClampNeg) = x5_l3 then (some (.inl (1, (x.2 + 1)))) else (some (.inl (0, (x.2 + 1))))))) else (some (.inl (1, (x.2 + 1)))))
def s_X5_freeRhyme_5 (vrhymes : Nat → Int32) (p0 : Int32) (x : Int32 × Int32) : Option ((Int32 × Int32) ⊕ (Int32 × Int32)) := if x.2 < 0 then (some (.inr (x.1, x.2))) else (ob (wh (s_X5_freeRhyme_15 vrhymes p0 x.2) 5000 (0, 0)) (fun r3 => if r3.1 = 0 then (some (.inl (x.2, (x.2 + (-1))))) else (some (.inl (x.1, (x.2 + (-1)))))))
def f_X5_freeRhyme (vrhymes : Nat → Int32) (p0 : Int32) : Option (Int32) := ob (wh (s_X5_freeRhyme_5 vrhymes p0) 5000 (0, 11)) (fun r1 => some r1.1)
theorem inX5_freeRhyme_X5 : ∀ w ∈ wsX50, w ∈ wsX5_freeRhyme := fun w h => List.mem_cons_of_mem _ (List.mem_append_right _ h)
theorem yd_X5_freeRhyme : yX5_freeRhyme.cls ≠ "java/lang/invoke/MethodHandle" ∧ yX5_freeRhyme.cls ≠ "java/lang/invoke/VarHandle" ∧ (parseMethodDescriptor yX5_freeRhyme.desc).map (fun d => d.parameters.length) = some 1 := by decide +kernel
abbrev rmX5_freeRhyme : Room := { frames := 0, cells := 0, slots := 0, locals := 0 }
set_option maxHeartbeats 4000000 in
set_option maxRecDepth 100000 in
theorem k_X5_freeRhyme (l : Launch) (D : va_G) (K : Nat → ClassId) (q : Nat → Nat) (vweight : Nat → Int32) (vkind : Nat → Int32) (vrhymes : Nat → Int32) (vpurse : Nat → Int32) (vhas : Nat → Int32) (vwishes : Nat → Int32) (vwishMany : Int32) (vsightLeft : Nat → Int32) (vsightRight : Nat → Int32) (vsightHow : Nat → Int32) (vsights : Int32) (vpad : Nat → Int32) (vpadMany : Int32) (vact : Nat → Int32) (vwho : Nat → Int32) (vwhich : Nat → Int32) (vwhom : Nat → Int32) (vacts : Int32) (vplace : Int32) (vopenMany : Int32) (vended : Int32) (vspoken : Int32) (vheaviest : Int32) (vheaviestWeight : Int32) (vhad : Nat → Int32) (vbadAct : Int32) (vbadWhy : Int32) (vbrings : Nat → Int64) (vbringsThen : Nat → Int64) (vkept : Nat → Int32) (visKept : Nat → Int32) (vkeptAt : Int32) (visWriting : Int32) (p0 : Int32) (out : Int32) (hf : f_X5_freeRhyme vrhymes p0 = some out) : kI l D K .int yX5_freeRhyme wsX5_freeRhyme rmX5_freeRhyme [.ref (q 0), .int p0] (mdW K q vweight vkind vrhymes vpurse vhas vwishes vwishMany vsightLeft vsightRight vsightHow vsights vpad vpadMany vact vwho vwhich vwhom vacts vplace vopenMany vended vspoken vheaviest vheaviestWeight vhad vbadAct vbadWhy vbrings vbringsThen vkept visKept vkeptAt visWriting) out (mdW K q vweight vkind vrhymes vpurse vhas vwishes vwishMany vsightLeft vsightRight vsightHow vsights vpad vpadMany vact vwho vwhich vwhom vacts vplace vopenMany vended vspoken vheaviest vheaviestWeight vhad vbadAct vbadWhy vbrings vbringsThen vkept visKept vkeptAt visWriting) := by
  refine kI.of (cc := cX5_freeRhyme) (maxL := 6) (by decide) rfl (Nat.le_of_ble_eq_true rfl) ?_
  intro p e s m args below meth c A H0 Q ls hx hb hml hown hts hK hN hA hP hD hS hl hret
  have hown : s.vm.findClass RX5 = some m.cls := hown
  have hl : lv_has ls 6 [(0, .ref (q 0)), (1, .int p0)] := hl
  generalize hH : H0 = H at hP ⊢
  have hS : va_S A H0 H [] := by rw [← hH]; exact hS
  clear hH
  unfold f_X5_freeRhyme at hf
  refine lv_iconst (v := 0) hx hb dX5_freeRhyme_0 (by decide) ?_
  refine lv_istore_n (lv' := [(2, .int 0), (0, .ref (q 0)), (1, .int p0)]) hx hb dX5_freeRhyme_1 rfl hl (by decide) rfl (fun ls hl => ?_)
  refine lv_bipush (v := 11) hx hb dX5_freeRhyme_2 (by decide) ?_
  refine lv_istore_n (lv' := [(3, .int 11), (2, .int 0), (0, .ref (q 0)), (1, .int p0)]) hx hb dX5_freeRhyme_4 rfl hl (by decide) rfl (fun ls hl => ?_)
  obtain ⟨r1, hr1, hf⟩ := ob_el hf
  have post5 : ∀ (e5_l2 : Int32) (e5_l3 : Int32) (H : Heap) (locs : List Loc) (ls : Array Slot), (some e5_l2) = some out → va_P D vwCl (mdW K q vweight vkind vrhymes vpurse vhas vwishes vwishMany vsightLeft vsightRight vsightHow vsights vpad vpadMany vact vwho vwhich vwhom vacts vplace vopenMany vended vspoken vheaviest vheaviestWeight vhad vbadAct vbadWhy vbrings vbringsThen vkept visKept vkeptAt visWriting) H → va_D A (mdW K q vweight vkind vrhymes vpurse vhas vwishes vwishMany vsightLeft vsightRight vsightHow vsights vpad vpadMany vact vwho vwhich vwhom vacts vplace vopenMany vended vspoken vheaviest vheaviestWeight vhad vbadAct vbadWhy vbrings vbringsThen vkept visKept vkeptAt visWriting) → va_S A H0 H locs → lv_has ls 6 [(3, .int e5_l3), (2, .int e5_l2), (0, .ref (q 0)), (1, .int p0)] → W p l e rmX5_freeRhyme s m args below meth c H locs 0 0 Q (F0 m 74 ls []) := by
    intro e5_l2 e5_l3 H locs ls hf hP hD hS hl
    refine lv_iload_n hx hb dX5_freeRhyme_74 rfl (lv_at hl 1 rfl) ?_
    obtain rfl := Option.some.inj hf
    exact hret rfl rfl rfl hP hD hS dX5_freeRhyme_75
  have lp5 : ∀ (fu : Nat) (x5_l2 : Int32) (x5_l3 : Int32) (H : Heap) (locs : List Loc) (ls : Array Slot), wh (s_X5_freeRhyme_5 vrhymes p0) fu (x5_l2, x5_l3) = some r1 → va_P D vwCl (mdW K q vweight vkind vrhymes vpurse vhas vwishes vwishMany vsightLeft vsightRight vsightHow vsights vpad vpadMany vact vwho vwhich vwhom vacts vplace vopenMany vended vspoken vheaviest vheaviestWeight vhad vbadAct vbadWhy vbrings vbringsThen vkept visKept vkeptAt visWriting) H → va_D A (mdW K q vweight vkind vrhymes vpurse vhas vwishes vwishMany vsightLeft vsightRight vsightHow vsights vpad vpadMany vact vwho vwhich vwhom vacts vplace vopenMany vended vspoken vheaviest vheaviestWeight vhad vbadAct vbadWhy vbrings vbringsThen vkept visKept vkeptAt visWriting) → va_S A H0 H locs → lv_has ls 6 [(3, .int x5_l3), (2, .int x5_l2), (0, .ref (q 0)), (1, .int p0)] → W p l e rmX5_freeRhyme s m args below meth c H locs 0 0 Q (F0 m 5 ls []) := by
    intro fu
    induction fu with
    | zero => intro x5_l2 x5_l3 H locs ls hw5; cases hw5
    | succ fu ih5 =>
      intro x5_l2 x5_l3 H locs ls hw5 hP hD hS hl
      obtain ⟨o5_, hs5, hw5⟩ := wh_el hw5
      unfold s_X5_freeRhyme_5 at hs5
      dsimp only at hs5
      refine lv_iload_n hx hb dX5_freeRhyme_5 rfl (lv_at hl 0 rfl) ?_
      refine lv_if_lt (tgt := 74) hx hb dX5_freeRhyme_6 (by decide) (fun c2 => ?_) (fun c2 => ?_)
      · rw [if_pos c2] at hs5
        obtain rfl := Option.some.inj hs5
        have e9 := Option.some.inj hw5
        rw [← e9] at hf
        exact post5 _ _ _ _ _ hf hP hD hS (lv_sub hl [0, 1, 2, 3] rfl)
      · rw [if_neg c2] at hs5
        refine lv_iconst (v := 0) hx hb dX5_freeRhyme_9 (by decide) ?_
        refine lv_istore (lv' := [(4, .int 0), (3, .int x5_l3), (2, .int x5_l2), (0, .ref (q 0)), (1, .int p0)]) hx hb dX5_freeRhyme_10 hl (by decide) rfl (fun ls hl => ?_)
        refine lv_iconst (v := 0) hx hb dX5_freeRhyme_12 (by decide) ?_
        refine lv_istore (lv' := [(5, .int 0), (4, .int 0), (3, .int x5_l3), (2, .int x5_l2), (0, .ref (q 0)), (1, .int p0)]) hx hb dX5_freeRhyme_13 hl (by decide) rfl (fun ls hl => ?_)
        obtain ⟨r3, hr3, hs5⟩ := ob_el hs5
        have post15 : ∀ (e15_l4 : Int32) (e15_l5 : Int32) (H : Heap) (locs : List Loc) (ls : Array Slot), (if e15_l4 = 0 then (some (.inl (x5_l3, (x5_l3 + (-1))))) else (some (.inl (x5_l2, (x5_l3 + (-1)))))) = some o5_ → va_P D vwCl (mdW K q vweight vkind vrhymes vpurse vhas vwishes vwishMany vsightLeft vsightRight vsightHow vsights vpad vpadMany vact vwho vwhich vwhom vacts vplace vopenMany vended vspoken vheaviest vheaviestWeight vhad vbadAct vbadWhy vbrings vbringsThen vkept visKept vkeptAt visWriting) H → va_D A (mdW K q vweight vkind vrhymes vpurse vhas vwishes vwishMany vsightLeft vsightRight vsightHow vsights vpad vpadMany vact vwho vwhich vwhom vacts vplace vopenMany vended vspoken vheaviest vheaviestWeight vhad vbadAct vbadWhy vbrings vbringsThen vkept visKept vkeptAt visWriting) → va_S A H0 H locs → lv_has ls 6 [(5, .int e15_l5), (4, .int e15_l4), (3, .int x5_l3), (2, .int x5_l2), (0, .ref (q 0)), (1, .int p0)] → W p l e rmX5_freeRhyme s m args below meth c H locs 0 0 Q (F0 m 57 ls []) := by
          intro e15_l4 e15_l5 H locs ls hs5 hP hD hS hl
          refine lv_iload hx hb dX5_freeRhyme_57 (lv_at hl 1 rfl) ?_
          refine lv_if_eq (tgt := 66) hx hb dX5_freeRhyme_59 (by decide) (fun c4 => ?_) (fun c4 => ?_)
          · rw [if_pos c4] at hs5
            refine lv_iload_n hx hb dX5_freeRhyme_66 rfl (lv_at hl 2 rfl) ?_
            refine lv_istore_n (lv' := [(2, .int x5_l3), (5, .int e15_l5), (4, .int e15_l4), (3, .int x5_l3), (0, .ref (q 0)), (1, .int p0)]) hx hb dX5_freeRhyme_67 rfl hl (by decide) rfl (fun ls hl => ?_)
            refine lv_iinc (v := (x5_l3 + (-1))) (lv' := [(3, .int (x5_l3 + (-1))), (2, .int x5_l3), (5, .int e15_l5), (4, .int e15_l4), (0, .ref (q 0)), (1, .int p0)]) hx hb dX5_freeRhyme_68 hl (k := 3) rfl (congrArg (fun z => x5_l3 + z) (by decide : Int32.ofInt (-1) = ((-1) : Int32))) (by decide) rfl (fun ls hl => ?_)
            refine lv_goto (tgt := 5) hx hb dX5_freeRhyme_71 (by decide) ?_
            obtain rfl := Option.some.inj hs5
            exact ih5 _ _ _ _ _ hw5 hP hD hS (lv_sub hl [0, 1, 4, 5] rfl)
          · rw [if_neg c4] at hs5
            refine lv_iload_n hx hb dX5_freeRhyme_62 rfl (lv_at hl 3 rfl) ?_
            refine lv_goto (tgt := 67) hx hb dX5_freeRhyme_63 (by decide) ?_
            refine lv_istore_n (lv' := [(2, .int x5_l2), (5, .int e15_l5), (4, .int e15_l4), (3, .int x5_l3), (0, .ref (q 0)), (1, .int p0)]) hx hb dX5_freeRhyme_67 rfl hl (by decide) rfl (fun ls hl => ?_)
            refine lv_iinc (v := (x5_l3 + (-1))) (lv' := [(3, .int (x5_l3 + (-1))), (2, .int x5_l2), (5, .int e15_l5), (4, .int e15_l4), (0, .ref (q 0)), (1, .int p0)]) hx hb dX5_freeRhyme_68 hl (k := 3) rfl (congrArg (fun z => x5_l3 + z) (by decide : Int32.ofInt (-1) = ((-1) : Int32))) (by decide) rfl (fun ls hl => ?_)
            refine lv_goto (tgt := 5) hx hb dX5_freeRhyme_71 (by decide) ?_
            obtain rfl := Option.some.inj hs5
            exact ih5 _ _ _ _ _ hw5 hP hD hS (lv_sub hl [0, 1, 4, 5] rfl)
        have lp15 : ∀ (fu : Nat) (x15_l4 : Int32) (x15_l5 : Int32) (H : Heap) (locs : List Loc) (ls : Array Slot), wh (s_X5_freeRhyme_15 vrhymes p0 x5_l3) fu (x15_l4, x15_l5) = some r3 → va_P D vwCl (mdW K q vweight vkind vrhymes vpurse vhas vwishes vwishMany vsightLeft vsightRight vsightHow vsights vpad vpadMany vact vwho vwhich vwhom vacts vplace vopenMany vended vspoken vheaviest vheaviestWeight vhad vbadAct vbadWhy vbrings vbringsThen vkept visKept vkeptAt visWriting) H → va_D A (mdW K q vweight vkind vrhymes vpurse vhas vwishes vwishMany vsightLeft vsightRight vsightHow vsights vpad vpadMany vact vwho vwhich vwhom vacts vplace vopenMany vended vspoken vheaviest vheaviestWeight vhad vbadAct vbadWhy vbrings vbringsThen vkept visKept vkeptAt visWriting) → va_S A H0 H locs → lv_has ls 6 [(5, .int x15_l5), (4, .int x15_l4), (3, .int x5_l3), (2, .int x5_l2), (0, .ref (q 0)), (1, .int p0)] → W p l e rmX5_freeRhyme s m args below meth c H locs 0 0 Q (F0 m 15 ls []) := by
          intro fu
          induction fu with
          | zero => intro x15_l4 x15_l5 H locs ls hw15; cases hw15
          | succ fu ih15 =>
            intro x15_l4 x15_l5 H locs ls hw15 hP hD hS hl
            obtain ⟨o15_, hs15, hw15⟩ := wh_el hw15
            unfold s_X5_freeRhyme_15 at hs15
            dsimp only at hs15
            refine lv_iload hx hb dX5_freeRhyme_15 (lv_at hl 0 rfl) ?_
            refine lv_bipush (v := 12) hx hb dX5_freeRhyme_17 (by decide) ?_
            refine lv_icmp_ge (tgt := 57) hx hb dX5_freeRhyme_19 (by decide) (fun c5 => ?_) (fun c5 => ?_)
            · rw [if_pos c5] at hs15
              obtain rfl := Option.some.inj hs15
              have e9 := Option.some.inj hw15
              rw [← e9] at hs5
              exact post15 _ _ _ _ _ hs5 hP hD hS (lv_sub hl [0, 1, 2, 3, 4, 5] rfl)
            · rw [if_neg c5] at hs15
              refine lv_iload hx hb dX5_freeRhyme_22 (lv_at hl 1 rfl) ?_
              refine lv_if_ne (tgt := 44) hx hb dX5_freeRhyme_24 (by decide) (fun c6 => ?_) (fun c6 => ?_)
              · rw [if_neg c6] at hs15
                refine lv_iconst (v := 1) hx hb dX5_freeRhyme_44 (by decide) ?_
                refine lv_goto (tgt := 49) hx hb dX5_freeRhyme_45 (by decide) ?_
                refine lv_istore (lv' := [(4, .int 1), (5, .int x15_l5), (3, .int x5_l3), (2, .int x5_l2), (0, .ref (q 0)), (1, .int p0)]) hx hb dX5_freeRhyme_49 hl (by decide) rfl (fun ls hl => ?_)
                refine lv_iinc (v := (x15_l5 + 1)) (lv' := [(5, .int (x15_l5 + 1)), (4, .int 1), (3, .int x5_l3), (2, .int x5_l2), (0, .ref (q 0)), (1, .int p0)]) hx hb dX5_freeRhyme_51 hl (k := 1) rfl (by rfl) (by decide) rfl (fun ls hl => ?_)
                refine lv_goto (tgt := 15) hx hb dX5_freeRhyme_54 (by decide) ?_
                obtain rfl := Option.some.inj hs15
                exact ih15 _ _ _ _ _ hw15 hP hD hS (lv_sub hl [0, 1, 2, 3, 4, 5] rfl)
              · rw [if_pos c6] at hs15
                refine lv_iload hx hb dX5_freeRhyme_27 (lv_at hl 0 rfl) ?_
                refine lv_iload_n hx hb dX5_freeRhyme_29 rfl (lv_at hl 5 rfl) ?_
                refine lv_icmp_eq (tgt := 48) hx hb dX5_freeRhyme_30 (by decide) (fun c7 => ?_) (fun c7 => ?_)
                · rw [if_pos c7] at hs15
                  refine lv_iconst (v := 0) hx hb dX5_freeRhyme_48 (by decide) ?_
                  refine lv_istore (lv' := [(4, .int 0), (5, .int x15_l5), (3, .int x5_l3), (2, .int x5_l2), (0, .ref (q 0)), (1, .int p0)]) hx hb dX5_freeRhyme_49 hl (by decide) rfl (fun ls hl => ?_)
                  refine lv_iinc (v := (x15_l5 + 1)) (lv' := [(5, .int (x15_l5 + 1)), (4, .int 0), (3, .int x5_l3), (2, .int x5_l2), (0, .ref (q 0)), (1, .int p0)]) hx hb dX5_freeRhyme_51 hl (k := 1) rfl (by rfl) (by decide) rfl (fun ls hl => ?_)
                  refine lv_goto (tgt := 15) hx hb dX5_freeRhyme_54 (by decide) ?_
                  obtain rfl := Option.some.inj hs15
                  exact ih15 _ _ _ _ _ hw15 hP hD hS (lv_sub hl [0, 1, 2, 3, 4, 5] rfl)
                · rw [if_neg c7] at hs15
                  refine lv_aload_n hx hb dX5_freeRhyme_33 rfl (lv_at hl 4 rfl) ?_
                  refine va_get (D := D) (ci := 5) (v := .ref (q 3)) (C := RX5) (T := TX5) (N := 33) hx hb hts inX5_freeRhyme_X5 hown hK hP 0 rfl rfl 2 (by decide) (hts (.fieldLink RX5 16 "WordScalesModel" "rhymes" "[I") (List.mem_of_getElem? (i := 1) rfl)) (fun _ h9 => h9) rfl dX5_freeRhyme_34 ?_
                  refine lv_iload hx hb dX5_freeRhyme_37 (lv_at hl 0 rfl) ?_
                  obtain ⟨v8, hs15⟩ := chk_el hs15
                  refine va_iald (D := D) (f := vrhymes) hx hb hK hP 3 0 rfl rfl v8 dX5_freeRhyme_39 ?_
                  refine lv_iload_n hx hb dX5_freeRhyme_40 rfl (lv_at hl 2 rfl) ?_
                  refine lv_icmp_ne (tgt := 48) hx hb dX5_freeRhyme_41 (by decide) (fun c9 => ?_) (fun c9 => ?_)
                  · rw [if_neg c9] at hs15
                    refine lv_iconst (v := 0) hx hb dX5_freeRhyme_48 (by decide) ?_
                    refine lv_istore (lv' := [(4, .int 0), (5, .int x15_l5), (3, .int x5_l3), (2, .int x5_l2), (0, .ref (q 0)), (1, .int p0)]) hx hb dX5_freeRhyme_49 hl (by decide) rfl (fun ls hl => ?_)
                    refine lv_iinc (v := (x15_l5 + 1)) (lv' := [(5, .int (x15_l5 + 1)), (4, .int 0), (3, .int x5_l3), (2, .int x5_l2), (0, .ref (q 0)), (1, .int p0)]) hx hb dX5_freeRhyme_51 hl (k := 1) rfl (by rfl) (by decide) rfl (fun ls hl => ?_)
                    refine lv_goto (tgt := 15) hx hb dX5_freeRhyme_54 (by decide) ?_
                    obtain rfl := Option.some.inj hs15
                    exact ih15 _ _ _ _ _ hw15 hP hD hS (lv_sub hl [0, 1, 2, 3, 4, 5] rfl)
                  · rw [if_pos c9] at hs15
                    refine lv_iconst (v := 1) hx hb dX5_freeRhyme_44 (by decide) ?_
                    refine lv_goto (tgt := 49) hx hb dX5_freeRhyme_45 (by decide) ?_
                    refine lv_istore (lv' := [(4, .int 1), (5, .int x15_l5), (3, .int x5_l3), (2, .int x5_l2), (0, .ref (q 0)), (1, .int p0)]) hx hb dX5_freeRhyme_49 hl (by decide) rfl (fun ls hl => ?_)
                    refine lv_iinc (v := (x15_l5 + 1)) (lv' := [(5, .int (x15_l5 + 1)), (4, .int 1), (3, .int x5_l3), (2, .int x5_l2), (0, .ref (q 0)), (1, .int p0)]) hx hb dX5_freeRhyme_51 hl (k := 1) rfl (by rfl) (by decide) rfl (fun ls hl => ?_)
                    refine lv_goto (tgt := 15) hx hb dX5_freeRhyme_54 (by decide) ?_
                    obtain rfl := Option.some.inj hs15
                    exact ih15 _ _ _ _ _ hw15 hP hD hS (lv_sub hl [0, 1, 2, 3, 4, 5] rfl)
        exact lp15 5000 _ _ _ _ _ hr3 hP hD hS (lv_sub hl [0, 1, 2, 3, 4, 5] rfl)
  exact lp5 5000 _ _ _ _ _ hr1 hP hD hS (lv_sub hl [0, 1, 2, 3] rfl)
def f_X5_part (vrhymes : Nat → Int32) (p0 : Int32) : Option (Int32 × (Nat → Int32)) := bd (f_X5_isWord p0) (fun o1 => if o1 = 0 then (some ((-1), vrhymes)) else (ob (f_X5_rhymesOf vrhymes p0) (fun o3 => ob (f_X5_ones o3) (fun o4 => ob (f_X5_freeRhyme vrhymes p0) (fun o5 => chk p0 12 (some (o4, (upd vrhymes (p0).toNatClampNeg o5))))))))
theorem inX5_part_X5 : ∀ w ∈ wsX50, w ∈ wsX5_part := fun w h => List.mem_cons_of_mem _ (List.mem_append_right _ h)
theorem yd_X5_part : yX5_part.cls ≠ "java/lang/invoke/MethodHandle" ∧ yX5_part.cls ≠ "java/lang/invoke/VarHandle" ∧ (parseMethodDescriptor yX5_part.desc).map (fun d => d.parameters.length) = some 1 := by decide +kernel
abbrev rmX5_part : Room := { frames := 2, cells := 0, slots := 0, locals := 45 }
set_option maxHeartbeats 4000000 in
set_option maxRecDepth 100000 in
theorem k_X5_part (l : Launch) (D : va_G) (K : Nat → ClassId) (q : Nat → Nat) (vweight : Nat → Int32) (vkind : Nat → Int32) (vrhymes : Nat → Int32) (vpurse : Nat → Int32) (vhas : Nat → Int32) (vwishes : Nat → Int32) (vwishMany : Int32) (vsightLeft : Nat → Int32) (vsightRight : Nat → Int32) (vsightHow : Nat → Int32) (vsights : Int32) (vpad : Nat → Int32) (vpadMany : Int32) (vact : Nat → Int32) (vwho : Nat → Int32) (vwhich : Nat → Int32) (vwhom : Nat → Int32) (vacts : Int32) (vplace : Int32) (vopenMany : Int32) (vended : Int32) (vspoken : Int32) (vheaviest : Int32) (vheaviestWeight : Int32) (vhad : Nat → Int32) (vbadAct : Int32) (vbadWhy : Int32) (vbrings : Nat → Int64) (vbringsThen : Nat → Int64) (vkept : Nat → Int32) (visKept : Nat → Int32) (vkeptAt : Int32) (visWriting : Int32) (p0 : Int32) (out : Int32 × (Nat → Int32)) (hf : f_X5_part vrhymes p0 = some out) : kI l D K .int yX5_part wsX5_part rmX5_part [.ref (q 0), .int p0] (mdW K q vweight vkind vrhymes vpurse vhas vwishes vwishMany vsightLeft vsightRight vsightHow vsights vpad vpadMany vact vwho vwhich vwhom vacts vplace vopenMany vended vspoken vheaviest vheaviestWeight vhad vbadAct vbadWhy vbrings vbringsThen vkept visKept vkeptAt visWriting) out.1 (mdW K q vweight vkind out.2 vpurse vhas vwishes vwishMany vsightLeft vsightRight vsightHow vsights vpad vpadMany vact vwho vwhich vwhom vacts vplace vopenMany vended vspoken vheaviest vheaviestWeight vhad vbadAct vbadWhy vbrings vbringsThen vkept visKept vkeptAt visWriting) := by
  refine kI.of (cc := cX5_part) (maxL := 3) (by decide) rfl (Nat.le_of_ble_eq_true rfl) ?_
  intro p e s m args below meth c A H0 Q ls hx hb hml hown hts hK hN hA hP hD hS hl hret
  have hown : s.vm.findClass RX5 = some m.cls := hown
  have hl : lv_has ls 3 [(0, .ref (q 0)), (1, .int p0)] := hl
  generalize hH : H0 = H at hP ⊢
  have hS : va_S A H0 H [] := by rw [← hH]; exact hS
  clear hH
  unfold f_X5_part at hf
  refine lv_iload_n hx hb dX5_part_0 rfl (lv_at hl 1 rfl) ?_
  obtain ⟨o1, ho1, hf⟩ := bd_el hf
  refine kc0_i (D := D) (va_runS (As := [.int p0]) (rest := []) ⟨hx, hb, hml, hown, hts⟩ ((k_X5_isWord l D K p0 o1 ho1) H.size) (va_cwS 1 hts gX5_part_X5_isWord rfl rfl rfl yd_X5_isWord ⟨Nat.le_of_ble_eq_true rfl, Nat.le_of_ble_eq_true rfl⟩) (kPreS va_P_nil (va_D_nil (A := fun _ => True)) hK hN) rfl rfl hl.1 rfl (lv_room (Nat.le_of_ble_eq_true rfl)) dX5_part_1 ⟨Nat.le_of_ble_eq_true rfl, Nat.le_of_ble_eq_true rfl⟩) hP hS hA (fun hzo1 H locs hP hS => ?_)
  refine lv_if_ne (tgt := 9) hx hb dX5_part_4 (by decide) (fun c2 => ?_) (fun c2 => ?_)
  · rw [if_neg c2] at hf
    refine lv_aload_n hx hb dX5_part_9 rfl (lv_at hl 0 rfl) ?_
    refine lv_iload_n hx hb dX5_part_10 rfl (lv_at hl 1 rfl) ?_
    obtain ⟨o3, ho3, hf⟩ := ob_el hf
    refine kcw_i (D := D) (va_runV (As := [.int p0]) (rest := []) ⟨hx, hb, hml, hown, hts⟩ ((k_X5_rhymesOf l D K q vweight vkind vrhymes vpurse vhas vwishes vwishMany vsightLeft vsightRight vsightHow vsights vpad vpadMany vact vwho vwhich vwhom vacts vplace vopenMany vended vspoken vheaviest vheaviestWeight vhad vbadAct vbadWhy vbrings vbringsThen vkept visKept vkeptAt visWriting p0 o3 ho3) H.size) (cwV 1 hts gX5_part_X5_rhymesOf rfl rfl rfl ⟨rfl, yd_X5_rhymesOf⟩ ⟨Nat.le_of_ble_eq_true rfl, Nat.le_of_ble_eq_true rfl⟩) (kPreV (ci := 5) (q0 := 0) hP rfl rfl hP hD hK hN) rfl rfl hl.1 rfl (lv_room (Nat.le_of_ble_eq_true rfl)) dX5_part_11 ⟨Nat.le_of_ble_eq_true rfl, Nat.le_of_ble_eq_true rfl⟩) hD hS hA (fun hzo3 H locs hP hD hS => ?_)
    have hP : va_P D vwCl (mdW K q vweight vkind vrhymes vpurse vhas vwishes vwishMany vsightLeft vsightRight vsightHow vsights vpad vpadMany vact vwho vwhich vwhom vacts vplace vopenMany vended vspoken vheaviest vheaviestWeight vhad vbadAct vbadWhy vbrings vbringsThen vkept visKept vkeptAt visWriting) H := hP
    have hD : va_D A (mdW K q vweight vkind vrhymes vpurse vhas vwishes vwishMany vsightLeft vsightRight vsightHow vsights vpad vpadMany vact vwho vwhich vwhom vacts vplace vopenMany vended vspoken vheaviest vheaviestWeight vhad vbadAct vbadWhy vbrings vbringsThen vkept visKept vkeptAt visWriting) := hD
    obtain ⟨o4, ho4, hf⟩ := ob_el hf
    refine kc0_i (D := D) (va_runS (As := [.int o3]) (rest := []) ⟨hx, hb, hml, hown, hts⟩ ((k_X5_ones l D K o3 o4 ho4) H.size) (va_cwS 1 hts gX5_part_X5_ones rfl rfl rfl yd_X5_ones ⟨Nat.le_of_ble_eq_true rfl, Nat.le_of_ble_eq_true rfl⟩) (kPreS va_P_nil (va_D_nil (A := fun _ => True)) hK hN) rfl rfl hl.1 rfl (lv_room (Nat.le_of_ble_eq_true rfl)) dX5_part_14 ⟨Nat.le_of_ble_eq_true rfl, Nat.le_of_ble_eq_true rfl⟩) hP hS hA (fun hzo4 H locs hP hS => ?_)
    refine lv_istore_n (lv' := [(2, .int o4), (0, .ref (q 0)), (1, .int p0)]) hx hb dX5_part_17 rfl hl (by decide) rfl (fun ls hl => ?_)
    refine lv_aload_n hx hb dX5_part_18 rfl (lv_at hl 1 rfl) ?_
    refine va_get (D := D) (ci := 5) (v := .ref (q 3)) (C := RX5) (T := TX5) (N := 33) hx hb hts inX5_part_X5 hown hK hP 0 rfl rfl 2 (by decide) (hts (.fieldLink RX5 16 "WordScalesModel" "rhymes" "[I") (List.mem_of_getElem? (i := 1) rfl)) (fun _ h9 => h9) rfl dX5_part_19 ?_
    refine lv_iload_n hx hb dX5_part_22 rfl (lv_at hl 2 rfl) ?_
    refine lv_aload_n hx hb dX5_part_23 rfl (lv_at hl 1 rfl) ?_
    refine lv_iload_n hx hb dX5_part_24 rfl (lv_at hl 2 rfl) ?_
    obtain ⟨o5, ho5, hf⟩ := ob_el hf
    refine kcw_i (D := D) (va_runV (As := [.int p0]) (rest := [.int p0, .ref (q 3)]) ⟨hx, hb, hml, hown, hts⟩ ((k_X5_freeRhyme l D K q vweight vkind vrhymes vpurse vhas vwishes vwishMany vsightLeft vsightRight vsightHow vsights vpad vpadMany vact vwho vwhich vwhom vacts vplace vopenMany vended vspoken vheaviest vheaviestWeight vhad vbadAct vbadWhy vbrings vbringsThen vkept visKept vkeptAt visWriting p0 o5 ho5) H.size) (cwV 1 hts gX5_part_X5_freeRhyme rfl rfl rfl ⟨rfl, yd_X5_freeRhyme⟩ ⟨Nat.le_of_ble_eq_true rfl, Nat.le_of_ble_eq_true rfl⟩) (kPreV (ci := 5) (q0 := 0) hP rfl rfl hP hD hK hN) rfl rfl hl.1 rfl (lv_room (Nat.le_of_ble_eq_true rfl)) dX5_part_25 ⟨Nat.le_of_ble_eq_true rfl, Nat.le_of_ble_eq_true rfl⟩) hD hS hA (fun hzo5 H locs hP hD hS => ?_)
    have hP : va_P D vwCl (mdW K q vweight vkind vrhymes vpurse vhas vwishes vwishMany vsightLeft vsightRight vsightHow vsights vpad vpadMany vact vwho vwhich vwhom vacts vplace vopenMany vended vspoken vheaviest vheaviestWeight vhad vbadAct vbadWhy vbrings vbringsThen vkept visKept vkeptAt visWriting) H := hP
    have hD : va_D A (mdW K q vweight vkind vrhymes vpurse vhas vwishes vwishMany vsightLeft vsightRight vsightHow vsights vpad vpadMany vact vwho vwhich vwhom vacts vplace vopenMany vended vspoken vheaviest vheaviestWeight vhad vbadAct vbadWhy vbrings vbringsThen vkept visKept vkeptAt visWriting) := hD
    obtain ⟨v6, hf⟩ := chk_el hf
    refine va_iast (D := D) (f := vrhymes) hx hb hK hP hD hS 3 0 rfl rfl v6 dX5_part_28 (fun H locs hP hD hS => ?_)
    have hP : va_P D vwCl (mdW K q vweight vkind (upd vrhymes (p0).toNatClampNeg o5) vpurse vhas vwishes vwishMany vsightLeft vsightRight vsightHow vsights vpad vpadMany vact vwho vwhich vwhom vacts vplace vopenMany vended vspoken vheaviest vheaviestWeight vhad vbadAct vbadWhy vbrings vbringsThen vkept visKept vkeptAt visWriting) H := hP
    have hD : va_D A (mdW K q vweight vkind (upd vrhymes (p0).toNatClampNeg o5) vpurse vhas vwishes vwishMany vsightLeft vsightRight vsightHow vsights vpad vpadMany vact vwho vwhich vwhom vacts vplace vopenMany vended vspoken vheaviest vheaviestWeight vhad vbadAct vbadWhy vbrings vbringsThen vkept visKept vkeptAt visWriting) := hD
    refine lv_iload_n hx hb dX5_part_29 rfl (lv_at hl 0 rfl) ?_
    obtain rfl := Option.some.inj hf
    exact hret rfl rfl rfl hP hD hS dX5_part_30
  · rw [if_pos c2] at hf
    refine lv_iconst (v := (-1)) hx hb dX5_part_7 (by decide) ?_
    obtain rfl := Option.some.inj hf
    exact hret rfl rfl rfl hP hD hS dX5_part_8
def f_X5_speaker (vpurse : Nat → Int32) (vhas : Nat → Int32) (p0 : Int32) (p1 : Int32) (p2 : Int32) : Option (Int32 × (Nat → Int32) × (Nat → Int32)) := bd (f_X5_isSpeaker p0) (fun o1 => if o1 = 0 then (some ((-1), vpurse, vhas)) else (bd (f_X5_in p1.toInt64 (0) (999)) (fun o3 => if o3 = 0 then (some ((-2), vpurse, vhas)) else (bd (f_X5_in p2.toInt64 (0) (4095)) (fun o5 => if o5 = 0 then (some ((-2), vpurse, vhas)) else (chk p0 4 (some ((vpurse (p0).toNatClampNeg), (upd vpurse (p0).toNatClampNeg p1), (upd vhas (p0).toNatClampNeg p2)))))))))
theorem inX5_speaker_X5 : ∀ w ∈ wsX50, w ∈ wsX5_speaker := fun w h => List.mem_cons_of_mem _ (List.mem_append_right _ h)
theorem yd_X5_speaker : yX5_speaker.cls ≠ "java/lang/invoke/MethodHandle" ∧ yX5_speaker.cls ≠ "java/lang/invoke/VarHandle" ∧ (parseMethodDescriptor yX5_speaker.desc).map (fun d => d.parameters.length) = some 3 := by decide +kernel
abbrev rmX5_speaker : Room := { frames := 2, cells := 0, slots := 0, locals := 45 }
set_option maxHeartbeats 4000000 in
set_option maxRecDepth 100000 in
theorem k_X5_speaker (l : Launch) (D : va_G) (K : Nat → ClassId) (q : Nat → Nat) (vweight : Nat → Int32) (vkind : Nat → Int32) (vrhymes : Nat → Int32) (vpurse : Nat → Int32) (vhas : Nat → Int32) (vwishes : Nat → Int32) (vwishMany : Int32) (vsightLeft : Nat → Int32) (vsightRight : Nat → Int32) (vsightHow : Nat → Int32) (vsights : Int32) (vpad : Nat → Int32) (vpadMany : Int32) (vact : Nat → Int32) (vwho : Nat → Int32) (vwhich : Nat → Int32) (vwhom : Nat → Int32) (vacts : Int32) (vplace : Int32) (vopenMany : Int32) (vended : Int32) (vspoken : Int32) (vheaviest : Int32) (vheaviestWeight : Int32) (vhad : Nat → Int32) (vbadAct : Int32) (vbadWhy : Int32) (vbrings : Nat → Int64) (vbringsThen : Nat → Int64) (vkept : Nat → Int32) (visKept : Nat → Int32) (vkeptAt : Int32) (visWriting : Int32) (p0 : Int32) (p1 : Int32) (p2 : Int32) (out : Int32 × (Nat → Int32) × (Nat → Int32)) (hf : f_X5_speaker vpurse vhas p0 p1 p2 = some out) : kI l D K .int yX5_speaker wsX5_speaker rmX5_speaker [.ref (q 0), .int p0, .int p1, .int p2] (mdW K q vweight vkind vrhymes vpurse vhas vwishes vwishMany vsightLeft vsightRight vsightHow vsights vpad vpadMany vact vwho vwhich vwhom vacts vplace vopenMany vended vspoken vheaviest vheaviestWeight vhad vbadAct vbadWhy vbrings vbringsThen vkept visKept vkeptAt visWriting) out.1 (mdW K q vweight vkind vrhymes out.2.1 out.2.2 vwishes vwishMany vsightLeft vsightRight vsightHow vsights vpad vpadMany vact vwho vwhich vwhom vacts vplace vopenMany vended vspoken vheaviest vheaviestWeight vhad vbadAct vbadWhy vbrings vbringsThen vkept visKept vkeptAt visWriting) := by
  refine kI.of (cc := cX5_speaker) (maxL := 5) (by decide) rfl (Nat.le_of_ble_eq_true rfl) ?_
  intro p e s m args below meth c A H0 Q ls hx hb hml hown hts hK hN hA hP hD hS hl hret
  have hown : s.vm.findClass RX5 = some m.cls := hown
  have hl : lv_has ls 5 [(0, .ref (q 0)), (1, .int p0), (2, .int p1), (3, .int p2)] := hl
  generalize hH : H0 = H at hP ⊢
  have hS : va_S A H0 H [] := by rw [← hH]; exact hS
  clear hH
  unfold f_X5_speaker at hf
  refine lv_iload_n hx hb dX5_speaker_0 rfl (lv_at hl 1 rfl) ?_
  obtain ⟨o1, ho1, hf⟩ := bd_el hf
  refine kc0_i (D := D) (va_runS (As := [.int p0]) (rest := []) ⟨hx, hb, hml, hown, hts⟩ ((k_X5_isSpeaker l D K p0 o1 ho1) H.size) (va_cwS 1 hts gX5_speaker_X5_isSpeaker rfl rfl rfl yd_X5_isSpeaker ⟨Nat.le_of_ble_eq_true rfl, Nat.le_of_ble_eq_true rfl⟩) (kPreS va_P_nil (va_D_nil (A := fun _ => True)) hK hN) rfl rfl hl.1 rfl (lv_room (Nat.le_of_ble_eq_true rfl)) dX5_speaker_1 ⟨Nat.le_of_ble_eq_true rfl, Nat.le_of_ble_eq_true rfl⟩) hP hS hA (fun hzo1 H locs hP hS => ?_)
  refine lv_if_ne (tgt := 9) hx hb dX5_speaker_4 (by decide) (fun c2 => ?_) (fun c2 => ?_)
  · rw [if_neg c2] at hf
    refine lv_iload_n hx hb dX5_speaker_9 rfl (lv_at hl 2 rfl) ?_
    refine lv_i2l (v := p1.toInt64) hx hb dX5_speaker_10 rfl ?_
    refine lv_lconst (v := 0) hx hb dX5_speaker_11 (by decide) ?_
    refine lv_ldc2 hx hb hown (hts (.constantLong RX5 98 (999)) (List.mem_of_getElem? (i := 1) rfl)) dX5_speaker_12 ?_
    obtain ⟨o3, ho3, hf⟩ := bd_el hf
    refine kc0_i (D := D) (va_runS (As := [.long p1.toInt64, .long 0, .long 999]) (rest := []) ⟨hx, hb, hml, hown, hts⟩ ((k_X5_in l D K p1.toInt64 (0) (999) o3 ho3) H.size) (va_cwS 3 hts gX5_speaker_X5_in rfl rfl rfl yd_X5_in ⟨Nat.le_of_ble_eq_true rfl, Nat.le_of_ble_eq_true rfl⟩) (kPreS va_P_nil (va_D_nil (A := fun _ => True)) hK hN) rfl rfl hl.1 rfl (lv_room (Nat.le_of_ble_eq_true rfl)) dX5_speaker_15 ⟨Nat.le_of_ble_eq_true rfl, Nat.le_of_ble_eq_true rfl⟩) hP hS hA (fun hzo3 H locs hP hS => ?_)
    refine lv_if_eq (tgt := 33) hx hb dX5_speaker_18 (by decide) (fun c4 => ?_) (fun c4 => ?_)
    · rw [if_pos c4] at hf
      refine lv_bipush (v := (-2)) hx hb dX5_speaker_33 (by decide) ?_
      obtain rfl := Option.some.inj hf
      exact hret rfl rfl rfl hP hD hS dX5_speaker_35
    · rw [if_neg c4] at hf
      refine lv_iload_n hx hb dX5_speaker_21 rfl (lv_at hl 3 rfl) ?_
      refine lv_i2l (v := p2.toInt64) hx hb dX5_speaker_22 rfl ?_
      refine lv_lconst (v := 0) hx hb dX5_speaker_23 (by decide) ?_
      refine lv_ldc2 hx hb hown (hts (.constantLong RX5 100 (4095)) (List.mem_of_getElem? (i := 2) rfl)) dX5_speaker_24 ?_
      obtain ⟨o5, ho5, hf⟩ := bd_el hf
      refine kc0_i (D := D) (va_runS (As := [.long p2.toInt64, .long 0, .long 4095]) (rest := []) ⟨hx, hb, hml, hown, hts⟩ ((k_X5_in l D K p2.toInt64 (0) (4095) o5 ho5) H.size) (va_cwS 3 hts gX5_speaker_X5_in rfl rfl rfl yd_X5_in ⟨Nat.le_of_ble_eq_true rfl, Nat.le_of_ble_eq_true rfl⟩) (kPreS va_P_nil (va_D_nil (A := fun _ => True)) hK hN) rfl rfl hl.1 rfl (lv_room (Nat.le_of_ble_eq_true rfl)) dX5_speaker_27 ⟨Nat.le_of_ble_eq_true rfl, Nat.le_of_ble_eq_true rfl⟩) hP hS hA (fun hzo5 H locs hP hS => ?_)
      refine lv_if_ne (tgt := 36) hx hb dX5_speaker_30 (by decide) (fun c6 => ?_) (fun c6 => ?_)
      · rw [if_neg c6] at hf
        refine lv_aload_n hx hb dX5_speaker_36 rfl (lv_at hl 0 rfl) ?_
        refine va_get (D := D) (ci := 5) (v := .ref (q 4)) (C := RX5) (T := TX5) (N := 33) hx hb hts inX5_speaker_X5 hown hK hP 0 rfl rfl 3 (by decide) (hts (.fieldLink RX5 19 "WordScalesModel" "purse" "[I") (List.mem_of_getElem? (i := 3) rfl)) (fun _ h9 => h9) rfl dX5_speaker_37 ?_
        refine lv_iload_n hx hb dX5_speaker_40 rfl (lv_at hl 1 rfl) ?_
        obtain ⟨v7, hf⟩ := chk_el hf
        refine va_iald (D := D) (f := vpurse) hx hb hK hP 4 0 rfl rfl v7 dX5_speaker_41 ?_
        refine lv_istore (lv' := [(4, .int (vpurse (p0).toNatClampNeg)), (0, .ref (q 0)), (1, .int p0), (2, .int p1), (3, .int p2)]) hx hb dX5_speaker_42 hl (by decide) rfl (fun ls hl => ?_)
        refine lv_aload_n hx hb dX5_speaker_44 rfl (lv_at hl 1 rfl) ?_
        refine va_get (D := D) (ci := 5) (v := .ref (q 4)) (C := RX5) (T := TX5) (N := 33) hx hb hts inX5_speaker_X5 hown hK hP 0 rfl rfl 3 (by decide) (hts (.fieldLink RX5 19 "WordScalesModel" "purse" "[I") (List.mem_of_getElem? (i := 3) rfl)) (fun _ h9 => h9) rfl dX5_speaker_45 ?_
        refine lv_iload_n hx hb dX5_speaker_48 rfl (lv_at hl 2 rfl) ?_
        refine lv_iload_n hx hb dX5_speaker_49 rfl (lv_at hl 3 rfl) ?_
        refine va_iast (D := D) (f := vpurse) hx hb hK hP hD hS 4 0 rfl rfl v7 dX5_speaker_50 (fun H locs hP hD hS => ?_)
        have hP : va_P D vwCl (mdW K q vweight vkind vrhymes (upd vpurse (p0).toNatClampNeg p1) vhas vwishes vwishMany vsightLeft vsightRight vsightHow vsights vpad vpadMany vact vwho vwhich vwhom vacts vplace vopenMany vended vspoken vheaviest vheaviestWeight vhad vbadAct vbadWhy vbrings vbringsThen vkept visKept vkeptAt visWriting) H := hP
        have hD : va_D A (mdW K q vweight vkind vrhymes (upd vpurse (p0).toNatClampNeg p1) vhas vwishes vwishMany vsightLeft vsightRight vsightHow vsights vpad vpadMany vact vwho vwhich vwhom vacts vplace vopenMany vended vspoken vheaviest vheaviestWeight vhad vbadAct vbadWhy vbrings vbringsThen vkept visKept vkeptAt visWriting) := hD
        refine lv_aload_n hx hb dX5_speaker_51 rfl (lv_at hl 1 rfl) ?_
        refine va_get (D := D) (ci := 5) (v := .ref (q 5)) (C := RX5) (T := TX5) (N := 33) hx hb hts inX5_speaker_X5 hown hK hP 0 rfl rfl 4 (by decide) (hts (.fieldLink RX5 22 "WordScalesModel" "has" "[I") (List.mem_of_getElem? (i := 4) rfl)) (fun _ h9 => h9) rfl dX5_speaker_52 ?_
        refine lv_iload_n hx hb dX5_speaker_55 rfl (lv_at hl 2 rfl) ?_
        refine lv_iload_n hx hb dX5_speaker_56 rfl (lv_at hl 4 rfl) ?_
        refine va_iast (D := D) (f := vhas) hx hb hK hP hD hS 5 0 rfl rfl v7 dX5_speaker_57 (fun H locs hP hD hS => ?_)
        have hP : va_P D vwCl (mdW K q vweight vkind vrhymes (upd vpurse (p0).toNatClampNeg p1) (upd vhas (p0).toNatClampNeg p2) vwishes vwishMany vsightLeft vsightRight vsightHow vsights vpad vpadMany vact vwho vwhich vwhom vacts vplace vopenMany vended vspoken vheaviest vheaviestWeight vhad vbadAct vbadWhy vbrings vbringsThen vkept visKept vkeptAt visWriting) H := hP
        have hD : va_D A (mdW K q vweight vkind vrhymes (upd vpurse (p0).toNatClampNeg p1) (upd vhas (p0).toNatClampNeg p2) vwishes vwishMany vsightLeft vsightRight vsightHow vsights vpad vpadMany vact vwho vwhich vwhom vacts vplace vopenMany vended vspoken vheaviest vheaviestWeight vhad vbadAct vbadWhy vbrings vbringsThen vkept visKept vkeptAt visWriting) := hD
        refine lv_iload hx hb dX5_speaker_58 (lv_at hl 0 rfl) ?_
        obtain rfl := Option.some.inj hf
        exact hret rfl rfl rfl hP hD hS dX5_speaker_60
      · rw [if_pos c6] at hf
        refine lv_bipush (v := (-2)) hx hb dX5_speaker_33 (by decide) ?_
        obtain rfl := Option.some.inj hf
        exact hret rfl rfl rfl hP hD hS dX5_speaker_35
  · rw [if_pos c2] at hf
    refine lv_iconst (v := (-1)) hx hb dX5_speaker_7 (by decide) ?_
    obtain rfl := Option.some.inj hf
    exact hret rfl rfl rfl hP hD hS dX5_speaker_8
def f_X5_say (vpad : Nat → Int32) (vpadMany : Int32) (p0 : Int32) : Option (Int32 × (Nat → Int32) × Int32) := bd (f_X5_in p0.toInt64 (33) (126)) (fun o1 => if o1 = 0 then (some ((-2), vpad, vpadMany)) else (if vpadMany = 60 then (some ((-4), vpad, vpadMany)) else (chk vpadMany 60 (some ((vpadMany + 1), (upd vpad (vpadMany).toNatClampNeg p0), (vpadMany + 1))))))
theorem inX5_say_X5 : ∀ w ∈ wsX50, w ∈ wsX5_say := fun w h => List.mem_cons_of_mem _ (List.mem_append_right _ h)
theorem yd_X5_say : yX5_say.cls ≠ "java/lang/invoke/MethodHandle" ∧ yX5_say.cls ≠ "java/lang/invoke/VarHandle" ∧ (parseMethodDescriptor yX5_say.desc).map (fun d => d.parameters.length) = some 1 := by decide +kernel
abbrev rmX5_say : Room := { frames := 1, cells := 0, slots := 0, locals := 25 }
set_option maxHeartbeats 4000000 in
set_option maxRecDepth 100000 in
theorem k_X5_say (l : Launch) (D : va_G) (K : Nat → ClassId) (q : Nat → Nat) (vweight : Nat → Int32) (vkind : Nat → Int32) (vrhymes : Nat → Int32) (vpurse : Nat → Int32) (vhas : Nat → Int32) (vwishes : Nat → Int32) (vwishMany : Int32) (vsightLeft : Nat → Int32) (vsightRight : Nat → Int32) (vsightHow : Nat → Int32) (vsights : Int32) (vpad : Nat → Int32) (vpadMany : Int32) (vact : Nat → Int32) (vwho : Nat → Int32) (vwhich : Nat → Int32) (vwhom : Nat → Int32) (vacts : Int32) (vplace : Int32) (vopenMany : Int32) (vended : Int32) (vspoken : Int32) (vheaviest : Int32) (vheaviestWeight : Int32) (vhad : Nat → Int32) (vbadAct : Int32) (vbadWhy : Int32) (vbrings : Nat → Int64) (vbringsThen : Nat → Int64) (vkept : Nat → Int32) (visKept : Nat → Int32) (vkeptAt : Int32) (visWriting : Int32) (p0 : Int32) (out : Int32 × (Nat → Int32) × Int32) (hf : f_X5_say vpad vpadMany p0 = some out) : kI l D K .int yX5_say wsX5_say rmX5_say [.ref (q 0), .int p0] (mdW K q vweight vkind vrhymes vpurse vhas vwishes vwishMany vsightLeft vsightRight vsightHow vsights vpad vpadMany vact vwho vwhich vwhom vacts vplace vopenMany vended vspoken vheaviest vheaviestWeight vhad vbadAct vbadWhy vbrings vbringsThen vkept visKept vkeptAt visWriting) out.1 (mdW K q vweight vkind vrhymes vpurse vhas vwishes vwishMany vsightLeft vsightRight vsightHow vsights out.2.1 out.2.2 vact vwho vwhich vwhom vacts vplace vopenMany vended vspoken vheaviest vheaviestWeight vhad vbadAct vbadWhy vbrings vbringsThen vkept visKept vkeptAt visWriting) := by
  refine kI.of (cc := cX5_say) (maxL := 2) (by decide) rfl (Nat.le_of_ble_eq_true rfl) ?_
  intro p e s m args below meth c A H0 Q ls hx hb hml hown hts hK hN hA hP hD hS hl hret
  have hown : s.vm.findClass RX5 = some m.cls := hown
  have hl : lv_has ls 2 [(0, .ref (q 0)), (1, .int p0)] := hl
  generalize hH : H0 = H at hP ⊢
  have hS : va_S A H0 H [] := by rw [← hH]; exact hS
  clear hH
  unfold f_X5_say at hf
  refine lv_iload_n hx hb dX5_say_0 rfl (lv_at hl 1 rfl) ?_
  refine lv_i2l (v := p0.toInt64) hx hb dX5_say_1 rfl ?_
  refine lv_ldc2 hx hb hown (hts (.constantLong RX5 102 (33)) (List.mem_of_getElem? (i := 1) rfl)) dX5_say_2 ?_
  refine lv_ldc2 hx hb hown (hts (.constantLong RX5 104 (126)) (List.mem_of_getElem? (i := 2) rfl)) dX5_say_5 ?_
  obtain ⟨o1, ho1, hf⟩ := bd_el hf
  refine kc0_i (D := D) (va_runS (As := [.long p0.toInt64, .long 33, .long 126]) (rest := []) ⟨hx, hb, hml, hown, hts⟩ ((k_X5_in l D K p0.toInt64 (33) (126) o1 ho1) H.size) (va_cwS 3 hts gX5_say_X5_in rfl rfl rfl yd_X5_in ⟨Nat.le_of_ble_eq_true rfl, Nat.le_of_ble_eq_true rfl⟩) (kPreS va_P_nil (va_D_nil (A := fun _ => True)) hK hN) rfl rfl hl.1 rfl (lv_room (Nat.le_of_ble_eq_true rfl)) dX5_say_8 ⟨Nat.le_of_ble_eq_true rfl, Nat.le_of_ble_eq_true rfl⟩) hP hS hA (fun hzo1 H locs hP hS => ?_)
  refine lv_if_ne (tgt := 17) hx hb dX5_say_11 (by decide) (fun c2 => ?_) (fun c2 => ?_)
  · rw [if_neg c2] at hf
    refine lv_aload_n hx hb dX5_say_17 rfl (lv_at hl 0 rfl) ?_
    refine va_get (D := D) (ci := 5) (v := .int vpadMany) (C := RX5) (T := TX5) (N := 33) hx hb hts inX5_say_X5 hown hK hP 0 rfl rfl 12 (by decide) (hts (.fieldLink RX5 106 "WordScalesModel" "padMany" "I") (List.mem_of_getElem? (i := 3) rfl)) (fun _ h9 => h9) rfl dX5_say_18 ?_
    refine lv_bipush (v := 60) hx hb dX5_say_21 (by decide) ?_
    refine lv_icmp_ne (tgt := 29) hx hb dX5_say_23 (by decide) (fun c3 => ?_) (fun c3 => ?_)
    · rw [if_neg c3] at hf
      refine lv_aload_n hx hb dX5_say_29 rfl (lv_at hl 0 rfl) ?_
      refine va_get (D := D) (ci := 5) (v := .ref (q 10)) (C := RX5) (T := TX5) (N := 33) hx hb hts inX5_say_X5 hown hK hP 0 rfl rfl 11 (by decide) (hts (.fieldLink RX5 37 "WordScalesModel" "pad" "[I") (List.mem_of_getElem? (i := 4) rfl)) (fun _ h9 => h9) rfl dX5_say_30 ?_
      refine lv_aload_n hx hb dX5_say_33 rfl (lv_at hl 0 rfl) ?_
      refine va_get (D := D) (ci := 5) (v := .int vpadMany) (C := RX5) (T := TX5) (N := 33) hx hb hts inX5_say_X5 hown hK hP 0 rfl rfl 12 (by decide) (hts (.fieldLink RX5 106 "WordScalesModel" "padMany" "I") (List.mem_of_getElem? (i := 3) rfl)) (fun _ h9 => h9) rfl dX5_say_34 ?_
      refine lv_iload_n hx hb dX5_say_37 rfl (lv_at hl 1 rfl) ?_
      obtain ⟨v4, hf⟩ := chk_el hf
      refine va_iast (D := D) (f := vpad) hx hb hK hP hD hS 10 0 rfl rfl v4 dX5_say_38 (fun H locs hP hD hS => ?_)
      have hP : va_P D vwCl (mdW K q vweight vkind vrhymes vpurse vhas vwishes vwishMany vsightLeft vsightRight vsightHow vsights (upd vpad (vpadMany).toNatClampNeg p0) vpadMany vact vwho vwhich vwhom vacts vplace vopenMany vended vspoken vheaviest vheaviestWeight vhad vbadAct vbadWhy vbrings vbringsThen vkept visKept vkeptAt visWriting) H := hP
      have hD : va_D A (mdW K q vweight vkind vrhymes vpurse vhas vwishes vwishMany vsightLeft vsightRight vsightHow vsights (upd vpad (vpadMany).toNatClampNeg p0) vpadMany vact vwho vwhich vwhom vacts vplace vopenMany vended vspoken vheaviest vheaviestWeight vhad vbadAct vbadWhy vbrings vbringsThen vkept visKept vkeptAt visWriting) := hD
      refine lv_aload_n hx hb dX5_say_39 rfl (lv_at hl 0 rfl) ?_
      refine lv_dup hx hb dX5_say_40 rfl ?_
      refine va_get (D := D) (ci := 5) (v := .int vpadMany) (C := RX5) (T := TX5) (N := 33) hx hb hts inX5_say_X5 hown hK hP 0 rfl rfl 12 (by decide) (hts (.fieldLink RX5 106 "WordScalesModel" "padMany" "I") (List.mem_of_getElem? (i := 3) rfl)) (fun _ h9 => h9) rfl dX5_say_41 ?_
      refine lv_iconst (v := 1) hx hb dX5_say_44 (by decide) ?_
      refine lv_iadd hx hb dX5_say_45 ?_
      refine va_put (D := D) (ci := 5) (v := .int (vpadMany + 1)) (ty := .int) (C := RX5) (T := TX5) (N := 33) hx hb hts inX5_say_X5 tyX5 tyX5_ok nmX5 hown hK hP hD hS 0 rfl rfl 12 (by decide) (hts (.fieldLink RX5 106 "WordScalesModel" "padMany" "I") (List.mem_of_getElem? (i := 3) rfl)) (fun _ h9 => h9) rfl (tyX5_ok 12 (by decide)) rfl rfl (Nat.le_of_ble_eq_true rfl) dX5_say_46 (fun H locs hP hD hS => ?_)
      have hP : va_P D vwCl (mdW K q vweight vkind vrhymes vpurse vhas vwishes vwishMany vsightLeft vsightRight vsightHow vsights (upd vpad (vpadMany).toNatClampNeg p0) (vpadMany + 1) vact vwho vwhich vwhom vacts vplace vopenMany vended vspoken vheaviest vheaviestWeight vhad vbadAct vbadWhy vbrings vbringsThen vkept visKept vkeptAt visWriting) H := hP
      have hD : va_D A (mdW K q vweight vkind vrhymes vpurse vhas vwishes vwishMany vsightLeft vsightRight vsightHow vsights (upd vpad (vpadMany).toNatClampNeg p0) (vpadMany + 1) vact vwho vwhich vwhom vacts vplace vopenMany vended vspoken vheaviest vheaviestWeight vhad vbadAct vbadWhy vbrings vbringsThen vkept visKept vkeptAt visWriting) := hD
      refine lv_aload_n hx hb dX5_say_49 rfl (lv_at hl 0 rfl) ?_
      refine va_get (D := D) (ci := 5) (v := .int (vpadMany + 1)) (C := RX5) (T := TX5) (N := 33) hx hb hts inX5_say_X5 hown hK hP 0 rfl rfl 12 (by decide) (hts (.fieldLink RX5 106 "WordScalesModel" "padMany" "I") (List.mem_of_getElem? (i := 3) rfl)) (fun _ h9 => h9) rfl dX5_say_50 ?_
      obtain rfl := Option.some.inj hf
      exact hret rfl rfl rfl hP hD hS dX5_say_53
    · rw [if_pos c3] at hf
      refine lv_bipush (v := (-4)) hx hb dX5_say_26 (by decide) ?_
      obtain rfl := Option.some.inj hf
      exact hret rfl rfl rfl hP hD hS dX5_say_28
  · rw [if_pos c2] at hf
    refine lv_bipush (v := (-2)) hx hb dX5_say_14 (by decide) ?_
    obtain rfl := Option.some.inj hf
    exact hret rfl rfl rfl hP hD hS dX5_say_16
def f_X5_wipe (vpadMany : Int32) : Int32 × Int32 := (vpadMany, 0)
theorem inX5_wipe_X5 : ∀ w ∈ wsX50, w ∈ wsX5_wipe := fun w h => List.mem_cons_of_mem _ (List.mem_append_right _ h)
theorem yd_X5_wipe : yX5_wipe.cls ≠ "java/lang/invoke/MethodHandle" ∧ yX5_wipe.cls ≠ "java/lang/invoke/VarHandle" ∧ (parseMethodDescriptor yX5_wipe.desc).map (fun d => d.parameters.length) = some 0 := by decide +kernel
abbrev rmX5_wipe : Room := { frames := 0, cells := 0, slots := 0, locals := 0 }
set_option maxHeartbeats 4000000 in
set_option maxRecDepth 100000 in
theorem k_X5_wipe (l : Launch) (D : va_G) (K : Nat → ClassId) (q : Nat → Nat) (vweight : Nat → Int32) (vkind : Nat → Int32) (vrhymes : Nat → Int32) (vpurse : Nat → Int32) (vhas : Nat → Int32) (vwishes : Nat → Int32) (vwishMany : Int32) (vsightLeft : Nat → Int32) (vsightRight : Nat → Int32) (vsightHow : Nat → Int32) (vsights : Int32) (vpad : Nat → Int32) (vpadMany : Int32) (vact : Nat → Int32) (vwho : Nat → Int32) (vwhich : Nat → Int32) (vwhom : Nat → Int32) (vacts : Int32) (vplace : Int32) (vopenMany : Int32) (vended : Int32) (vspoken : Int32) (vheaviest : Int32) (vheaviestWeight : Int32) (vhad : Nat → Int32) (vbadAct : Int32) (vbadWhy : Int32) (vbrings : Nat → Int64) (vbringsThen : Nat → Int64) (vkept : Nat → Int32) (visKept : Nat → Int32) (vkeptAt : Int32) (visWriting : Int32) (out : Int32 × Int32) (hf : f_X5_wipe vpadMany = out) : kI l D K .int yX5_wipe wsX5_wipe rmX5_wipe [.ref (q 0)] (mdW K q vweight vkind vrhymes vpurse vhas vwishes vwishMany vsightLeft vsightRight vsightHow vsights vpad vpadMany vact vwho vwhich vwhom vacts vplace vopenMany vended vspoken vheaviest vheaviestWeight vhad vbadAct vbadWhy vbrings vbringsThen vkept visKept vkeptAt visWriting) out.1 (mdW K q vweight vkind vrhymes vpurse vhas vwishes vwishMany vsightLeft vsightRight vsightHow vsights vpad out.2 vact vwho vwhich vwhom vacts vplace vopenMany vended vspoken vheaviest vheaviestWeight vhad vbadAct vbadWhy vbrings vbringsThen vkept visKept vkeptAt visWriting) := by
  refine kI.of (cc := cX5_wipe) (maxL := 2) (by decide) rfl (Nat.le_of_ble_eq_true rfl) ?_
  intro p e s m args below meth c A H0 Q ls hx hb hml hown hts hK hN hA hP hD hS hl hret
  have hown : s.vm.findClass RX5 = some m.cls := hown
  have hl : lv_has ls 2 [(0, .ref (q 0))] := hl
  generalize hH : H0 = H at hP ⊢
  have hS : va_S A H0 H [] := by rw [← hH]; exact hS
  clear hH
  unfold f_X5_wipe at hf
  refine lv_aload_n hx hb dX5_wipe_0 rfl (lv_at hl 0 rfl) ?_
  refine va_get (D := D) (ci := 5) (v := .int vpadMany) (C := RX5) (T := TX5) (N := 33) hx hb hts inX5_wipe_X5 hown hK hP 0 rfl rfl 12 (by decide) (hts (.fieldLink RX5 106 "WordScalesModel" "padMany" "I") (List.mem_of_getElem? (i := 1) rfl)) (fun _ h9 => h9) rfl dX5_wipe_1 ?_
  refine lv_istore_n (lv' := [(1, .int vpadMany), (0, .ref (q 0))]) hx hb dX5_wipe_4 rfl hl (by decide) rfl (fun ls hl => ?_)
  refine lv_aload_n hx hb dX5_wipe_5 rfl (lv_at hl 1 rfl) ?_
  refine lv_iconst (v := 0) hx hb dX5_wipe_6 (by decide) ?_
  refine va_put (D := D) (ci := 5) (v := .int 0) (ty := .int) (C := RX5) (T := TX5) (N := 33) hx hb hts inX5_wipe_X5 tyX5 tyX5_ok nmX5 hown hK hP hD hS 0 rfl rfl 12 (by decide) (hts (.fieldLink RX5 106 "WordScalesModel" "padMany" "I") (List.mem_of_getElem? (i := 1) rfl)) (fun _ h9 => h9) rfl (tyX5_ok 12 (by decide)) rfl rfl (Nat.le_of_ble_eq_true rfl) dX5_wipe_7 (fun H locs hP hD hS => ?_)
  have hP : va_P D vwCl (mdW K q vweight vkind vrhymes vpurse vhas vwishes vwishMany vsightLeft vsightRight vsightHow vsights vpad 0 vact vwho vwhich vwhom vacts vplace vopenMany vended vspoken vheaviest vheaviestWeight vhad vbadAct vbadWhy vbrings vbringsThen vkept visKept vkeptAt visWriting) H := hP
  have hD : va_D A (mdW K q vweight vkind vrhymes vpurse vhas vwishes vwishMany vsightLeft vsightRight vsightHow vsights vpad 0 vact vwho vwhich vwhom vacts vplace vopenMany vended vspoken vheaviest vheaviestWeight vhad vbadAct vbadWhy vbrings vbringsThen vkept visKept vkeptAt visWriting) := hD
  refine lv_iload_n hx hb dX5_wipe_10 rfl (lv_at hl 0 rfl) ?_
  subst hf
  exact hret rfl rfl rfl hP hD hS dX5_wipe_11
def f_X5_close (vacts : Int32) : Int32 × Int32 := (0, (vacts + 1))
theorem inX5_close_X5 : ∀ w ∈ wsX50, w ∈ wsX5_close := fun w h => List.mem_cons_of_mem _ (List.mem_append_right _ h)
theorem yd_X5_close : yX5_close.cls ≠ "java/lang/invoke/MethodHandle" ∧ yX5_close.cls ≠ "java/lang/invoke/VarHandle" ∧ (parseMethodDescriptor yX5_close.desc).map (fun d => d.parameters.length) = some 0 := by decide +kernel
abbrev rmX5_close : Room := { frames := 0, cells := 0, slots := 0, locals := 0 }
set_option maxHeartbeats 4000000 in
set_option maxRecDepth 100000 in
theorem k_X5_close (l : Launch) (D : va_G) (K : Nat → ClassId) (q : Nat → Nat) (vweight : Nat → Int32) (vkind : Nat → Int32) (vrhymes : Nat → Int32) (vpurse : Nat → Int32) (vhas : Nat → Int32) (vwishes : Nat → Int32) (vwishMany : Int32) (vsightLeft : Nat → Int32) (vsightRight : Nat → Int32) (vsightHow : Nat → Int32) (vsights : Int32) (vpad : Nat → Int32) (vpadMany : Int32) (vact : Nat → Int32) (vwho : Nat → Int32) (vwhich : Nat → Int32) (vwhom : Nat → Int32) (vacts : Int32) (vplace : Int32) (vopenMany : Int32) (vended : Int32) (vspoken : Int32) (vheaviest : Int32) (vheaviestWeight : Int32) (vhad : Nat → Int32) (vbadAct : Int32) (vbadWhy : Int32) (vbrings : Nat → Int64) (vbringsThen : Nat → Int64) (vkept : Nat → Int32) (visKept : Nat → Int32) (vkeptAt : Int32) (visWriting : Int32) (out : Int32 × Int32) (hf : f_X5_close vacts = out) : kI l D K .int yX5_close wsX5_close rmX5_close [.ref (q 0)] (mdW K q vweight vkind vrhymes vpurse vhas vwishes vwishMany vsightLeft vsightRight vsightHow vsights vpad vpadMany vact vwho vwhich vwhom vacts vplace vopenMany vended vspoken vheaviest vheaviestWeight vhad vbadAct vbadWhy vbrings vbringsThen vkept visKept vkeptAt visWriting) out.1 (mdW K q vweight vkind vrhymes vpurse vhas vwishes vwishMany vsightLeft vsightRight vsightHow vsights vpad vpadMany vact vwho vwhich vwhom out.2 vplace vopenMany vended vspoken vheaviest vheaviestWeight vhad vbadAct vbadWhy vbrings vbringsThen vkept visKept vkeptAt visWriting) := by
  refine kI.of (cc := cX5_close) (maxL := 1) (by decide) rfl (Nat.le_of_ble_eq_true rfl) ?_
  intro p e s m args below meth c A H0 Q ls hx hb hml hown hts hK hN hA hP hD hS hl hret
  have hown : s.vm.findClass RX5 = some m.cls := hown
  have hl : lv_has ls 1 [(0, .ref (q 0))] := hl
  generalize hH : H0 = H at hP ⊢
  have hS : va_S A H0 H [] := by rw [← hH]; exact hS
  clear hH
  unfold f_X5_close at hf
  refine lv_aload_n hx hb dX5_close_0 rfl (lv_at hl 0 rfl) ?_
  refine lv_dup hx hb dX5_close_1 rfl ?_
  refine va_get (D := D) (ci := 5) (v := .int vacts) (C := RX5) (T := TX5) (N := 33) hx hb hts inX5_close_X5 hown hK hP 0 rfl rfl 17 (by decide) (hts (.fieldLink RX5 110 "WordScalesModel" "acts" "I") (List.mem_of_getElem? (i := 1) rfl)) (fun _ h9 => h9) rfl dX5_close_2 ?_
  refine lv_iconst (v := 1) hx hb dX5_close_5 (by decide) ?_
  refine lv_iadd hx hb dX5_close_6 ?_
  refine va_put (D := D) (ci := 5) (v := .int (vacts + 1)) (ty := .int) (C := RX5) (T := TX5) (N := 33) hx hb hts inX5_close_X5 tyX5 tyX5_ok nmX5 hown hK hP hD hS 0 rfl rfl 17 (by decide) (hts (.fieldLink RX5 110 "WordScalesModel" "acts" "I") (List.mem_of_getElem? (i := 1) rfl)) (fun _ h9 => h9) rfl (tyX5_ok 17 (by decide)) rfl rfl (Nat.le_of_ble_eq_true rfl) dX5_close_7 (fun H locs hP hD hS => ?_)
  have hP : va_P D vwCl (mdW K q vweight vkind vrhymes vpurse vhas vwishes vwishMany vsightLeft vsightRight vsightHow vsights vpad vpadMany vact vwho vwhich vwhom (vacts + 1) vplace vopenMany vended vspoken vheaviest vheaviestWeight vhad vbadAct vbadWhy vbrings vbringsThen vkept visKept vkeptAt visWriting) H := hP
  have hD : va_D A (mdW K q vweight vkind vrhymes vpurse vhas vwishes vwishMany vsightLeft vsightRight vsightHow vsights vpad vpadMany vact vwho vwhich vwhom (vacts + 1) vplace vopenMany vended vspoken vheaviest vheaviestWeight vhad vbadAct vbadWhy vbrings vbringsThen vkept visKept vkeptAt visWriting) := hD
  refine lv_iconst (v := 0) hx hb dX5_close_10 (by decide) ?_
  subst hf
  exact hret rfl rfl rfl hP hD hS dX5_close_11
def f_X5_begin (vact : Nat → Int32) (vwho : Nat → Int32) (vwhich : Nat → Int32) (vwhom : Nat → Int32) (vacts : Int32) (p0 : Int32) : Option (Int32 × (Nat → Int32) × (Nat → Int32) × (Nat → Int32) × (Nat → Int32) × Int32) := bd (f_X5_in p0.toInt64 (65) (68)) (fun o1 => chk vacts 60 (if o1 = 0 then (if p0 = 46 then (bd (f_X5_close vacts) (fun o6 => some (o6.1, (upd vact (vacts).toNatClampNeg 4), (upd vwho (vacts).toNatClampNeg 0), (upd vwhich (vacts).toNatClampNeg 0), (upd vwhom (vacts).toNatClampNeg 0), o6.2))) else (some ((-6), (upd vact (vacts).toNatClampNeg 4), (upd vwho (vacts).toNatClampNeg 0), (upd vwhich (vacts).toNatClampNeg 0), (upd vwhom (vacts).toNatClampNeg 0), vacts))) else (some (1, (upd vact (vacts).toNatClampNeg 4), (upd vwho (vacts).toNatClampNeg (p0 - 65)), (upd vwhich (vacts).toNatClampNeg 0), (upd vwhom (vacts).toNatClampNeg 0), vacts))))
theorem inX5_begin_X5 : ∀ w ∈ wsX50, w ∈ wsX5_begin := fun w h => List.mem_cons_of_mem _ (List.mem_append_right _ h)
theorem yd_X5_begin : yX5_begin.cls ≠ "java/lang/invoke/MethodHandle" ∧ yX5_begin.cls ≠ "java/lang/invoke/VarHandle" ∧ (parseMethodDescriptor yX5_begin.desc).map (fun d => d.parameters.length) = some 1 := by decide +kernel
abbrev rmX5_begin : Room := { frames := 1, cells := 0, slots := 0, locals := 25 }
set_option maxHeartbeats 4000000 in
set_option maxRecDepth 100000 in
theorem k_X5_begin (l : Launch) (D : va_G) (K : Nat → ClassId) (q : Nat → Nat) (vweight : Nat → Int32) (vkind : Nat → Int32) (vrhymes : Nat → Int32) (vpurse : Nat → Int32) (vhas : Nat → Int32) (vwishes : Nat → Int32) (vwishMany : Int32) (vsightLeft : Nat → Int32) (vsightRight : Nat → Int32) (vsightHow : Nat → Int32) (vsights : Int32) (vpad : Nat → Int32) (vpadMany : Int32) (vact : Nat → Int32) (vwho : Nat → Int32) (vwhich : Nat → Int32) (vwhom : Nat → Int32) (vacts : Int32) (vplace : Int32) (vopenMany : Int32) (vended : Int32) (vspoken : Int32) (vheaviest : Int32) (vheaviestWeight : Int32) (vhad : Nat → Int32) (vbadAct : Int32) (vbadWhy : Int32) (vbrings : Nat → Int64) (vbringsThen : Nat → Int64) (vkept : Nat → Int32) (visKept : Nat → Int32) (vkeptAt : Int32) (visWriting : Int32) (p0 : Int32) (out : Int32 × (Nat → Int32) × (Nat → Int32) × (Nat → Int32) × (Nat → Int32) × Int32) (hf : f_X5_begin vact vwho vwhich vwhom vacts p0 = some out) : kI l D K .int yX5_begin wsX5_begin rmX5_begin [.ref (q 0), .int p0] (mdW K q vweight vkind vrhymes vpurse vhas vwishes vwishMany vsightLeft vsightRight vsightHow vsights vpad vpadMany vact vwho vwhich vwhom vacts vplace vopenMany vended vspoken vheaviest vheaviestWeight vhad vbadAct vbadWhy vbrings vbringsThen vkept visKept vkeptAt visWriting) out.1 (mdW K q vweight vkind vrhymes vpurse vhas vwishes vwishMany vsightLeft vsightRight vsightHow vsights vpad vpadMany out.2.1 out.2.2.1 out.2.2.2.1 out.2.2.2.2.1 out.2.2.2.2.2 vplace vopenMany vended vspoken vheaviest vheaviestWeight vhad vbadAct vbadWhy vbrings vbringsThen vkept visKept vkeptAt visWriting) := by
  refine kI.of (cc := cX5_begin) (maxL := 3) (by decide) rfl (Nat.le_of_ble_eq_true rfl) ?_
  intro p e s m args below meth c A H0 Q ls hx hb hml hown hts hK hN hA hP hD hS hl hret
  have hown : s.vm.findClass RX5 = some m.cls := hown
  have hl : lv_has ls 3 [(0, .ref (q 0)), (1, .int p0)] := hl
  generalize hH : H0 = H at hP ⊢
  have hS : va_S A H0 H [] := by rw [← hH]; exact hS
  clear hH
  unfold f_X5_begin at hf
  refine lv_iload_n hx hb dX5_begin_0 rfl (lv_at hl 1 rfl) ?_
  refine lv_i2l (v := p0.toInt64) hx hb dX5_begin_1 rfl ?_
  refine lv_ldc2 hx hb hown (hts (.constantLong RX5 113 (65)) (List.mem_of_getElem? (i := 1) rfl)) dX5_begin_2 ?_
  refine lv_ldc2 hx hb hown (hts (.constantLong RX5 115 (68)) (List.mem_of_getElem? (i := 2) rfl)) dX5_begin_5 ?_
  obtain ⟨o1, ho1, hf⟩ := bd_el hf
  refine kc0_i (D := D) (va_runS (As := [.long p0.toInt64, .long 65, .long 68]) (rest := []) ⟨hx, hb, hml, hown, hts⟩ ((k_X5_in l D K p0.toInt64 (65) (68) o1 ho1) H.size) (va_cwS 3 hts gX5_begin_X5_in rfl rfl rfl yd_X5_in ⟨Nat.le_of_ble_eq_true rfl, Nat.le_of_ble_eq_true rfl⟩) (kPreS va_P_nil (va_D_nil (A := fun _ => True)) hK hN) rfl rfl hl.1 rfl (lv_room (Nat.le_of_ble_eq_true rfl)) dX5_begin_8 ⟨Nat.le_of_ble_eq_true rfl, Nat.le_of_ble_eq_true rfl⟩) hP hS hA (fun hzo1 H locs hP hS => ?_)
  refine lv_istore_n (lv' := [(2, .int o1), (0, .ref (q 0)), (1, .int p0)]) hx hb dX5_begin_11 rfl hl (by decide) rfl (fun ls hl => ?_)
  refine lv_aload_n hx hb dX5_begin_12 rfl (lv_at hl 1 rfl) ?_
  refine va_get (D := D) (ci := 5) (v := .ref (q 11)) (C := RX5) (T := TX5) (N := 33) hx hb hts inX5_begin_X5 hown hK hP 0 rfl rfl 13 (by decide) (hts (.fieldLink RX5 40 "WordScalesModel" "act" "[I") (List.mem_of_getElem? (i := 3) rfl)) (fun _ h9 => h9) rfl dX5_begin_13 ?_
  refine lv_aload_n hx hb dX5_begin_16 rfl (lv_at hl 1 rfl) ?_
  refine va_get (D := D) (ci := 5) (v := .int vacts) (C := RX5) (T := TX5) (N := 33) hx hb hts inX5_begin_X5 hown hK hP 0 rfl rfl 17 (by decide) (hts (.fieldLink RX5 110 "WordScalesModel" "acts" "I") (List.mem_of_getElem? (i := 4) rfl)) (fun _ h9 => h9) rfl dX5_begin_17 ?_
  refine lv_iconst (v := 4) hx hb dX5_begin_20 (by decide) ?_
  obtain ⟨v2, hf⟩ := chk_el hf
  refine va_iast (D := D) (f := vact) hx hb hK hP hD hS 11 0 rfl rfl v2 dX5_begin_21 (fun H locs hP hD hS => ?_)
  have hP : va_P D vwCl (mdW K q vweight vkind vrhymes vpurse vhas vwishes vwishMany vsightLeft vsightRight vsightHow vsights vpad vpadMany (upd vact (vacts).toNatClampNeg 4) vwho vwhich vwhom vacts vplace vopenMany vended vspoken vheaviest vheaviestWeight vhad vbadAct vbadWhy vbrings vbringsThen vkept visKept vkeptAt visWriting) H := hP
  have hD : va_D A (mdW K q vweight vkind vrhymes vpurse vhas vwishes vwishMany vsightLeft vsightRight vsightHow vsights vpad vpadMany (upd vact (vacts).toNatClampNeg 4) vwho vwhich vwhom vacts vplace vopenMany vended vspoken vheaviest vheaviestWeight vhad vbadAct vbadWhy vbrings vbringsThen vkept visKept vkeptAt visWriting) := hD
  refine lv_aload_n hx hb dX5_begin_22 rfl (lv_at hl 1 rfl) ?_
  refine va_get (D := D) (ci := 5) (v := .ref (q 12)) (C := RX5) (T := TX5) (N := 33) hx hb hts inX5_begin_X5 hown hK hP 0 rfl rfl 14 (by decide) (hts (.fieldLink RX5 43 "WordScalesModel" "who" "[I") (List.mem_of_getElem? (i := 5) rfl)) (fun _ h9 => h9) rfl dX5_begin_23 ?_
  refine lv_aload_n hx hb dX5_begin_26 rfl (lv_at hl 1 rfl) ?_
  refine va_get (D := D) (ci := 5) (v := .int vacts) (C := RX5) (T := TX5) (N := 33) hx hb hts inX5_begin_X5 hown hK hP 0 rfl rfl 17 (by decide) (hts (.fieldLink RX5 110 "WordScalesModel" "acts" "I") (List.mem_of_getElem? (i := 4) rfl)) (fun _ h9 => h9) rfl dX5_begin_27 ?_
  refine lv_iload_n hx hb dX5_begin_30 rfl (lv_at hl 0 rfl) ?_
  refine lv_if_eq (tgt := 41) hx hb dX5_begin_31 (by decide) (fun c3 => ?_) (fun c3 => ?_)
  · rw [if_pos c3] at hf
    refine lv_iconst (v := 0) hx hb dX5_begin_41 (by decide) ?_
    refine va_iast (D := D) (f := vwho) hx hb hK hP hD hS 12 0 rfl rfl v2 dX5_begin_42 (fun H locs hP hD hS => ?_)
    have hP : va_P D vwCl (mdW K q vweight vkind vrhymes vpurse vhas vwishes vwishMany vsightLeft vsightRight vsightHow vsights vpad vpadMany (upd vact (vacts).toNatClampNeg 4) (upd vwho (vacts).toNatClampNeg 0) vwhich vwhom vacts vplace vopenMany vended vspoken vheaviest vheaviestWeight vhad vbadAct vbadWhy vbrings vbringsThen vkept visKept vkeptAt visWriting) H := hP
    have hD : va_D A (mdW K q vweight vkind vrhymes vpurse vhas vwishes vwishMany vsightLeft vsightRight vsightHow vsights vpad vpadMany (upd vact (vacts).toNatClampNeg 4) (upd vwho (vacts).toNatClampNeg 0) vwhich vwhom vacts vplace vopenMany vended vspoken vheaviest vheaviestWeight vhad vbadAct vbadWhy vbrings vbringsThen vkept visKept vkeptAt visWriting) := hD
    refine lv_aload_n hx hb dX5_begin_43 rfl (lv_at hl 1 rfl) ?_
    refine va_get (D := D) (ci := 5) (v := .ref (q 13)) (C := RX5) (T := TX5) (N := 33) hx hb hts inX5_begin_X5 hown hK hP 0 rfl rfl 15 (by decide) (hts (.fieldLink RX5 46 "WordScalesModel" "which" "[I") (List.mem_of_getElem? (i := 6) rfl)) (fun _ h9 => h9) rfl dX5_begin_44 ?_
    refine lv_aload_n hx hb dX5_begin_47 rfl (lv_at hl 1 rfl) ?_
    refine va_get (D := D) (ci := 5) (v := .int vacts) (C := RX5) (T := TX5) (N := 33) hx hb hts inX5_begin_X5 hown hK hP 0 rfl rfl 17 (by decide) (hts (.fieldLink RX5 110 "WordScalesModel" "acts" "I") (List.mem_of_getElem? (i := 4) rfl)) (fun _ h9 => h9) rfl dX5_begin_48 ?_
    refine lv_iconst (v := 0) hx hb dX5_begin_51 (by decide) ?_
    refine va_iast (D := D) (f := vwhich) hx hb hK hP hD hS 13 0 rfl rfl v2 dX5_begin_52 (fun H locs hP hD hS => ?_)
    have hP : va_P D vwCl (mdW K q vweight vkind vrhymes vpurse vhas vwishes vwishMany vsightLeft vsightRight vsightHow vsights vpad vpadMany (upd vact (vacts).toNatClampNeg 4) (upd vwho (vacts).toNatClampNeg 0) (upd vwhich (vacts).toNatClampNeg 0) vwhom vacts vplace vopenMany vended vspoken vheaviest vheaviestWeight vhad vbadAct vbadWhy vbrings vbringsThen vkept visKept vkeptAt visWriting) H := hP
    have hD : va_D A (mdW K q vweight vkind vrhymes vpurse vhas vwishes vwishMany vsightLeft vsightRight vsightHow vsights vpad vpadMany (upd vact (vacts).toNatClampNeg 4) (upd vwho (vacts).toNatClampNeg 0) (upd vwhich (vacts).toNatClampNeg 0) vwhom vacts vplace vopenMany vended vspoken vheaviest vheaviestWeight vhad vbadAct vbadWhy vbrings vbringsThen vkept visKept vkeptAt visWriting) := hD
    refine lv_aload_n hx hb dX5_begin_53 rfl (lv_at hl 1 rfl) ?_
    refine va_get (D := D) (ci := 5) (v := .ref (q 14)) (C := RX5) (T := TX5) (N := 33) hx hb hts inX5_begin_X5 hown hK hP 0 rfl rfl 16 (by decide) (hts (.fieldLink RX5 49 "WordScalesModel" "whom" "[I") (List.mem_of_getElem? (i := 7) rfl)) (fun _ h9 => h9) rfl dX5_begin_54 ?_
    refine lv_aload_n hx hb dX5_begin_57 rfl (lv_at hl 1 rfl) ?_
    refine va_get (D := D) (ci := 5) (v := .int vacts) (C := RX5) (T := TX5) (N := 33) hx hb hts inX5_begin_X5 hown hK hP 0 rfl rfl 17 (by decide) (hts (.fieldLink RX5 110 "WordScalesModel" "acts" "I") (List.mem_of_getElem? (i := 4) rfl)) (fun _ h9 => h9) rfl dX5_begin_58 ?_
    refine lv_iconst (v := 0) hx hb dX5_begin_61 (by decide) ?_
    refine va_iast (D := D) (f := vwhom) hx hb hK hP hD hS 14 0 rfl rfl v2 dX5_begin_62 (fun H locs hP hD hS => ?_)
    have hP : va_P D vwCl (mdW K q vweight vkind vrhymes vpurse vhas vwishes vwishMany vsightLeft vsightRight vsightHow vsights vpad vpadMany (upd vact (vacts).toNatClampNeg 4) (upd vwho (vacts).toNatClampNeg 0) (upd vwhich (vacts).toNatClampNeg 0) (upd vwhom (vacts).toNatClampNeg 0) vacts vplace vopenMany vended vspoken vheaviest vheaviestWeight vhad vbadAct vbadWhy vbrings vbringsThen vkept visKept vkeptAt visWriting) H := hP
    have hD : va_D A (mdW K q vweight vkind vrhymes vpurse vhas vwishes vwishMany vsightLeft vsightRight vsightHow vsights vpad vpadMany (upd vact (vacts).toNatClampNeg 4) (upd vwho (vacts).toNatClampNeg 0) (upd vwhich (vacts).toNatClampNeg 0) (upd vwhom (vacts).toNatClampNeg 0) vacts vplace vopenMany vended vspoken vheaviest vheaviestWeight vhad vbadAct vbadWhy vbrings vbringsThen vkept visKept vkeptAt visWriting) := hD
    refine lv_iload_n hx hb dX5_begin_63 rfl (lv_at hl 0 rfl) ?_
    refine lv_if_eq (tgt := 71) hx hb dX5_begin_64 (by decide) (fun c4 => ?_) (fun c4 => ?_)
    · skip
      refine lv_iload_n hx hb dX5_begin_71 rfl (lv_at hl 2 rfl) ?_
      refine lv_bipush (v := 46) hx hb dX5_begin_72 (by decide) ?_
      refine lv_icmp_ne (tgt := 84) hx hb dX5_begin_74 (by decide) (fun c5 => ?_) (fun c5 => ?_)
      · rw [if_neg c5] at hf
        refine lv_bipush (v := (-6)) hx hb dX5_begin_84 (by decide) ?_
        obtain rfl := Option.some.inj hf
        exact hret rfl rfl rfl hP hD hS dX5_begin_86
      · rw [if_pos c5] at hf
        refine lv_aload_n hx hb dX5_begin_77 rfl (lv_at hl 1 rfl) ?_
        obtain ⟨o6, ho6, hf⟩ := bd_el hf
        refine kcw_i (D := D) (va_runV (As := []) (rest := []) ⟨hx, hb, hml, hown, hts⟩ ((k_X5_close l D K q vweight vkind vrhymes vpurse vhas vwishes vwishMany vsightLeft vsightRight vsightHow vsights vpad vpadMany (upd vact (vacts).toNatClampNeg 4) (upd vwho (vacts).toNatClampNeg 0) (upd vwhich (vacts).toNatClampNeg 0) (upd vwhom (vacts).toNatClampNeg 0) vacts vplace vopenMany vended vspoken vheaviest vheaviestWeight vhad vbadAct vbadWhy vbrings vbringsThen vkept visKept vkeptAt visWriting o6 ho6) H.size) (cwV 0 hts gX5_begin_X5_close rfl rfl rfl ⟨rfl, yd_X5_close⟩ ⟨Nat.le_of_ble_eq_true rfl, Nat.le_of_ble_eq_true rfl⟩) (kPreV (ci := 5) (q0 := 0) hP rfl rfl hP hD hK hN) rfl rfl hl.1 rfl (lv_room (Nat.le_of_ble_eq_true rfl)) dX5_begin_78 ⟨Nat.le_of_ble_eq_true rfl, Nat.le_of_ble_eq_true rfl⟩) hD hS hA (fun hzo6 H locs hP hD hS => ?_)
        have hP : va_P D vwCl (mdW K q vweight vkind vrhymes vpurse vhas vwishes vwishMany vsightLeft vsightRight vsightHow vsights vpad vpadMany (upd vact (vacts).toNatClampNeg 4) (upd vwho (vacts).toNatClampNeg 0) (upd vwhich (vacts).toNatClampNeg 0) (upd vwhom (vacts).toNatClampNeg 0) o6.2 vplace vopenMany vended vspoken vheaviest vheaviestWeight vhad vbadAct vbadWhy vbrings vbringsThen vkept visKept vkeptAt visWriting) H := hP
        have hD : va_D A (mdW K q vweight vkind vrhymes vpurse vhas vwishes vwishMany vsightLeft vsightRight vsightHow vsights vpad vpadMany (upd vact (vacts).toNatClampNeg 4) (upd vwho (vacts).toNatClampNeg 0) (upd vwhich (vacts).toNatClampNeg 0) (upd vwhom (vacts).toNatClampNeg 0) o6.2 vplace vopenMany vended vspoken vheaviest vheaviestWeight vhad vbadAct vbadWhy vbrings vbringsThen vkept visKept vkeptAt visWriting) := hD
        refine lv_goto (tgt := 86) hx hb dX5_begin_81 (by decide) ?_
        obtain rfl := Option.some.inj hf
        exact hret rfl rfl rfl hP hD hS dX5_begin_86
    · exact absurd c3 c4
  · rw [if_neg c3] at hf
    refine lv_iload_n hx hb dX5_begin_34 rfl (lv_at hl 2 rfl) ?_
    refine lv_bipush (v := 65) hx hb dX5_begin_35 (by decide) ?_
    refine lv_isub hx hb dX5_begin_37 ?_
    refine lv_goto (tgt := 42) hx hb dX5_begin_38 (by decide) ?_
    refine va_iast (D := D) (f := vwho) hx hb hK hP hD hS 12 0 rfl rfl v2 dX5_begin_42 (fun H locs hP hD hS => ?_)
    have hP : va_P D vwCl (mdW K q vweight vkind vrhymes vpurse vhas vwishes vwishMany vsightLeft vsightRight vsightHow vsights vpad vpadMany (upd vact (vacts).toNatClampNeg 4) (upd vwho (vacts).toNatClampNeg (p0 - 65)) vwhich vwhom vacts vplace vopenMany vended vspoken vheaviest vheaviestWeight vhad vbadAct vbadWhy vbrings vbringsThen vkept visKept vkeptAt visWriting) H := hP
    have hD : va_D A (mdW K q vweight vkind vrhymes vpurse vhas vwishes vwishMany vsightLeft vsightRight vsightHow vsights vpad vpadMany (upd vact (vacts).toNatClampNeg 4) (upd vwho (vacts).toNatClampNeg (p0 - 65)) vwhich vwhom vacts vplace vopenMany vended vspoken vheaviest vheaviestWeight vhad vbadAct vbadWhy vbrings vbringsThen vkept visKept vkeptAt visWriting) := hD
    refine lv_aload_n hx hb dX5_begin_43 rfl (lv_at hl 1 rfl) ?_
    refine va_get (D := D) (ci := 5) (v := .ref (q 13)) (C := RX5) (T := TX5) (N := 33) hx hb hts inX5_begin_X5 hown hK hP 0 rfl rfl 15 (by decide) (hts (.fieldLink RX5 46 "WordScalesModel" "which" "[I") (List.mem_of_getElem? (i := 6) rfl)) (fun _ h9 => h9) rfl dX5_begin_44 ?_
    refine lv_aload_n hx hb dX5_begin_47 rfl (lv_at hl 1 rfl) ?_
    refine va_get (D := D) (ci := 5) (v := .int vacts) (C := RX5) (T := TX5) (N := 33) hx hb hts inX5_begin_X5 hown hK hP 0 rfl rfl 17 (by decide) (hts (.fieldLink RX5 110 "WordScalesModel" "acts" "I") (List.mem_of_getElem? (i := 4) rfl)) (fun _ h9 => h9) rfl dX5_begin_48 ?_
    refine lv_iconst (v := 0) hx hb dX5_begin_51 (by decide) ?_
    refine va_iast (D := D) (f := vwhich) hx hb hK hP hD hS 13 0 rfl rfl v2 dX5_begin_52 (fun H locs hP hD hS => ?_)
    have hP : va_P D vwCl (mdW K q vweight vkind vrhymes vpurse vhas vwishes vwishMany vsightLeft vsightRight vsightHow vsights vpad vpadMany (upd vact (vacts).toNatClampNeg 4) (upd vwho (vacts).toNatClampNeg (p0 - 65)) (upd vwhich (vacts).toNatClampNeg 0) vwhom vacts vplace vopenMany vended vspoken vheaviest vheaviestWeight vhad vbadAct vbadWhy vbrings vbringsThen vkept visKept vkeptAt visWriting) H := hP
    have hD : va_D A (mdW K q vweight vkind vrhymes vpurse vhas vwishes vwishMany vsightLeft vsightRight vsightHow vsights vpad vpadMany (upd vact (vacts).toNatClampNeg 4) (upd vwho (vacts).toNatClampNeg (p0 - 65)) (upd vwhich (vacts).toNatClampNeg 0) vwhom vacts vplace vopenMany vended vspoken vheaviest vheaviestWeight vhad vbadAct vbadWhy vbrings vbringsThen vkept visKept vkeptAt visWriting) := hD
    refine lv_aload_n hx hb dX5_begin_53 rfl (lv_at hl 1 rfl) ?_
    refine va_get (D := D) (ci := 5) (v := .ref (q 14)) (C := RX5) (T := TX5) (N := 33) hx hb hts inX5_begin_X5 hown hK hP 0 rfl rfl 16 (by decide) (hts (.fieldLink RX5 49 "WordScalesModel" "whom" "[I") (List.mem_of_getElem? (i := 7) rfl)) (fun _ h9 => h9) rfl dX5_begin_54 ?_
    refine lv_aload_n hx hb dX5_begin_57 rfl (lv_at hl 1 rfl) ?_
    refine va_get (D := D) (ci := 5) (v := .int vacts) (C := RX5) (T := TX5) (N := 33) hx hb hts inX5_begin_X5 hown hK hP 0 rfl rfl 17 (by decide) (hts (.fieldLink RX5 110 "WordScalesModel" "acts" "I") (List.mem_of_getElem? (i := 4) rfl)) (fun _ h9 => h9) rfl dX5_begin_58 ?_
    refine lv_iconst (v := 0) hx hb dX5_begin_61 (by decide) ?_
    refine va_iast (D := D) (f := vwhom) hx hb hK hP hD hS 14 0 rfl rfl v2 dX5_begin_62 (fun H locs hP hD hS => ?_)
    have hP : va_P D vwCl (mdW K q vweight vkind vrhymes vpurse vhas vwishes vwishMany vsightLeft vsightRight vsightHow vsights vpad vpadMany (upd vact (vacts).toNatClampNeg 4) (upd vwho (vacts).toNatClampNeg (p0 - 65)) (upd vwhich (vacts).toNatClampNeg 0) (upd vwhom (vacts).toNatClampNeg 0) vacts vplace vopenMany vended vspoken vheaviest vheaviestWeight vhad vbadAct vbadWhy vbrings vbringsThen vkept visKept vkeptAt visWriting) H := hP
    have hD : va_D A (mdW K q vweight vkind vrhymes vpurse vhas vwishes vwishMany vsightLeft vsightRight vsightHow vsights vpad vpadMany (upd vact (vacts).toNatClampNeg 4) (upd vwho (vacts).toNatClampNeg (p0 - 65)) (upd vwhich (vacts).toNatClampNeg 0) (upd vwhom (vacts).toNatClampNeg 0) vacts vplace vopenMany vended vspoken vheaviest vheaviestWeight vhad vbadAct vbadWhy vbrings vbringsThen vkept visKept vkeptAt visWriting) := hD
    refine lv_iload_n hx hb dX5_begin_63 rfl (lv_at hl 0 rfl) ?_
    refine lv_if_eq (tgt := 71) hx hb dX5_begin_64 (by decide) (fun c7 => ?_) (fun c7 => ?_)
    · exact absurd c7 c3
    · skip
      refine lv_iconst (v := 1) hx hb dX5_begin_67 (by decide) ?_
      refine lv_goto (tgt := 86) hx hb dX5_begin_68 (by decide) ?_
      obtain rfl := Option.some.inj hf
      exact hret rfl rfl rfl hP hD hS dX5_begin_86
def f_X5_deed (vact : Nat → Int32) (vwhich : Nat → Int32) (vacts : Int32) (p0 : Int32) : Option (Int32 × (Nat → Int32) × (Nat → Int32) × Int32) := bd (f_X5_in p0.toInt64 (97) (108)) (fun o1 => if o1 = 0 then (if p0 = 43 then (chk vacts 60 (some (2, (upd vact (vacts).toNatClampNeg 0), (upd vwhich (vacts).toNatClampNeg 0), vacts))) else (if p0 = 45 then (chk vacts 60 (some (2, (upd vact (vacts).toNatClampNeg 1), (upd vwhich (vacts).toNatClampNeg 0), vacts))) else (chk vacts 60 (if p0 = 62 then (some (3, (upd vact (vacts).toNatClampNeg 3), (upd vwhich (vacts).toNatClampNeg 0), vacts)) else (some ((-6), (upd vact (vacts).toNatClampNeg 3), (upd vwhich (vacts).toNatClampNeg 0), vacts)))))) else (chk vacts 60 (bd (f_X5_close vacts) (fun o23 => some (o23.1, (upd vact (vacts).toNatClampNeg 2), (upd vwhich (vacts).toNatClampNeg (p0 - 97)), o23.2)))))
theorem inX5_deed_X5 : ∀ w ∈ wsX50, w ∈ wsX5_deed := fun w h => List.mem_cons_of_mem _ (List.mem_append_right _ h)
theorem yd_X5_deed : yX5_deed.cls ≠ "java/lang/invoke/MethodHandle" ∧ yX5_deed.cls ≠ "java/lang/invoke/VarHandle" ∧ (parseMethodDescriptor yX5_deed.desc).map (fun d => d.parameters.length) = some 1 := by decide +kernel
abbrev rmX5_deed : Room := { frames := 1, cells := 0, slots := 0, locals := 25 }
set_option maxHeartbeats 4000000 in
set_option maxRecDepth 100000 in
theorem k_X5_deed (l : Launch) (D : va_G) (K : Nat → ClassId) (q : Nat → Nat) (vweight : Nat → Int32) (vkind : Nat → Int32) (vrhymes : Nat → Int32) (vpurse : Nat → Int32) (vhas : Nat → Int32) (vwishes : Nat → Int32) (vwishMany : Int32) (vsightLeft : Nat → Int32) (vsightRight : Nat → Int32) (vsightHow : Nat → Int32) (vsights : Int32) (vpad : Nat → Int32) (vpadMany : Int32) (vact : Nat → Int32) (vwho : Nat → Int32) (vwhich : Nat → Int32) (vwhom : Nat → Int32) (vacts : Int32) (vplace : Int32) (vopenMany : Int32) (vended : Int32) (vspoken : Int32) (vheaviest : Int32) (vheaviestWeight : Int32) (vhad : Nat → Int32) (vbadAct : Int32) (vbadWhy : Int32) (vbrings : Nat → Int64) (vbringsThen : Nat → Int64) (vkept : Nat → Int32) (visKept : Nat → Int32) (vkeptAt : Int32) (visWriting : Int32) (p0 : Int32) (out : Int32 × (Nat → Int32) × (Nat → Int32) × Int32) (hf : f_X5_deed vact vwhich vacts p0 = some out) : kI l D K .int yX5_deed wsX5_deed rmX5_deed [.ref (q 0), .int p0] (mdW K q vweight vkind vrhymes vpurse vhas vwishes vwishMany vsightLeft vsightRight vsightHow vsights vpad vpadMany vact vwho vwhich vwhom vacts vplace vopenMany vended vspoken vheaviest vheaviestWeight vhad vbadAct vbadWhy vbrings vbringsThen vkept visKept vkeptAt visWriting) out.1 (mdW K q vweight vkind vrhymes vpurse vhas vwishes vwishMany vsightLeft vsightRight vsightHow vsights vpad vpadMany out.2.1 vwho out.2.2.1 vwhom out.2.2.2 vplace vopenMany vended vspoken vheaviest vheaviestWeight vhad vbadAct vbadWhy vbrings vbringsThen vkept visKept vkeptAt visWriting) := by
  refine kI.of (cc := cX5_deed) (maxL := 3) (by decide) rfl (Nat.le_of_ble_eq_true rfl) ?_
  intro p e s m args below meth c A H0 Q ls hx hb hml hown hts hK hN hA hP hD hS hl hret
  have hown : s.vm.findClass RX5 = some m.cls := hown
  have hl : lv_has ls 3 [(0, .ref (q 0)), (1, .int p0)] := hl
  generalize hH : H0 = H at hP ⊢
  have hS : va_S A H0 H [] := by rw [← hH]; exact hS
  clear hH
  unfold f_X5_deed at hf
  refine lv_iload_n hx hb dX5_deed_0 rfl (lv_at hl 1 rfl) ?_
  refine lv_i2l (v := p0.toInt64) hx hb dX5_deed_1 rfl ?_
  refine lv_ldc2 hx hb hown (hts (.constantLong RX5 121 (97)) (List.mem_of_getElem? (i := 1) rfl)) dX5_deed_2 ?_
  refine lv_ldc2 hx hb hown (hts (.constantLong RX5 123 (108)) (List.mem_of_getElem? (i := 2) rfl)) dX5_deed_5 ?_
  obtain ⟨o1, ho1, hf⟩ := bd_el hf
  refine kc0_i (D := D) (va_runS (As := [.long p0.toInt64, .long 97, .long 108]) (rest := []) ⟨hx, hb, hml, hown, hts⟩ ((k_X5_in l D K p0.toInt64 (97) (108) o1 ho1) H.size) (va_cwS 3 hts gX5_deed_X5_in rfl rfl rfl yd_X5_in ⟨Nat.le_of_ble_eq_true rfl, Nat.le_of_ble_eq_true rfl⟩) (kPreS va_P_nil (va_D_nil (A := fun _ => True)) hK hN) rfl rfl hl.1 rfl (lv_room (Nat.le_of_ble_eq_true rfl)) dX5_deed_8 ⟨Nat.le_of_ble_eq_true rfl, Nat.le_of_ble_eq_true rfl⟩) hP hS hA (fun hzo1 H locs hP hS => ?_)
  refine lv_istore_n (lv' := [(2, .int o1), (0, .ref (q 0)), (1, .int p0)]) hx hb dX5_deed_11 rfl hl (by decide) rfl (fun ls hl => ?_)
  refine lv_aload_n hx hb dX5_deed_12 rfl (lv_at hl 1 rfl) ?_
  refine va_get (D := D) (ci := 5) (v := .ref (q 11)) (C := RX5) (T := TX5) (N := 33) hx hb hts inX5_deed_X5 hown hK hP 0 rfl rfl 13 (by decide) (hts (.fieldLink RX5 40 "WordScalesModel" "act" "[I") (List.mem_of_getElem? (i := 3) rfl)) (fun _ h9 => h9) rfl dX5_deed_13 ?_
  refine lv_aload_n hx hb dX5_deed_16 rfl (lv_at hl 1 rfl) ?_
  refine va_get (D := D) (ci := 5) (v := .int vacts) (C := RX5) (T := TX5) (N := 33) hx hb hts inX5_deed_X5 hown hK hP 0 rfl rfl 17 (by decide) (hts (.fieldLink RX5 110 "WordScalesModel" "acts" "I") (List.mem_of_getElem? (i := 4) rfl)) (fun _ h9 => h9) rfl dX5_deed_17 ?_
  refine lv_iload_n hx hb dX5_deed_20 rfl (lv_at hl 0 rfl) ?_
  refine lv_if_eq (tgt := 28) hx hb dX5_deed_21 (by decide) (fun c2 => ?_) (fun c2 => ?_)
  · rw [if_pos c2] at hf
    refine lv_iload_n hx hb dX5_deed_28 rfl (lv_at hl 2 rfl) ?_
    refine lv_bipush (v := 43) hx hb dX5_deed_29 (by decide) ?_
    refine lv_icmp_ne (tgt := 38) hx hb dX5_deed_31 (by decide) (fun c3 => ?_) (fun c3 => ?_)
    · rw [if_neg c3] at hf
      refine lv_iload_n hx hb dX5_deed_38 rfl (lv_at hl 2 rfl) ?_
      refine lv_bipush (v := 45) hx hb dX5_deed_39 (by decide) ?_
      refine lv_icmp_ne (tgt := 48) hx hb dX5_deed_41 (by decide) (fun c4 => ?_) (fun c4 => ?_)
      · rw [if_neg c4] at hf
        refine lv_iconst (v := 3) hx hb dX5_deed_48 (by decide) ?_
        obtain ⟨v5, hf⟩ := chk_el hf
        refine va_iast (D := D) (f := vact) hx hb hK hP hD hS 11 0 rfl rfl v5 dX5_deed_49 (fun H locs hP hD hS => ?_)
        have hP : va_P D vwCl (mdW K q vweight vkind vrhymes vpurse vhas vwishes vwishMany vsightLeft vsightRight vsightHow vsights vpad vpadMany (upd vact (vacts).toNatClampNeg 3) vwho vwhich vwhom vacts vplace vopenMany vended vspoken vheaviest vheaviestWeight vhad vbadAct vbadWhy vbrings vbringsThen vkept visKept vkeptAt visWriting) H := hP
        have hD : va_D A (mdW K q vweight vkind vrhymes vpurse vhas vwishes vwishMany vsightLeft vsightRight vsightHow vsights vpad vpadMany (upd vact (vacts).toNatClampNeg 3) vwho vwhich vwhom vacts vplace vopenMany vended vspoken vheaviest vheaviestWeight vhad vbadAct vbadWhy vbrings vbringsThen vkept visKept vkeptAt visWriting) := hD
        refine lv_aload_n hx hb dX5_deed_50 rfl (lv_at hl 1 rfl) ?_
        refine va_get (D := D) (ci := 5) (v := .ref (q 13)) (C := RX5) (T := TX5) (N := 33) hx hb hts inX5_deed_X5 hown hK hP 0 rfl rfl 15 (by decide) (hts (.fieldLink RX5 46 "WordScalesModel" "which" "[I") (List.mem_of_getElem? (i := 5) rfl)) (fun _ h9 => h9) rfl dX5_deed_51 ?_
        refine lv_aload_n hx hb dX5_deed_54 rfl (lv_at hl 1 rfl) ?_
        refine va_get (D := D) (ci := 5) (v := .int vacts) (C := RX5) (T := TX5) (N := 33) hx hb hts inX5_deed_X5 hown hK hP 0 rfl rfl 17 (by decide) (hts (.fieldLink RX5 110 "WordScalesModel" "acts" "I") (List.mem_of_getElem? (i := 4) rfl)) (fun _ h9 => h9) rfl dX5_deed_55 ?_
        refine lv_iload_n hx hb dX5_deed_58 rfl (lv_at hl 0 rfl) ?_
        refine lv_if_eq (tgt := 69) hx hb dX5_deed_59 (by decide) (fun c6 => ?_) (fun c6 => ?_)
        · skip
          refine lv_iconst (v := 0) hx hb dX5_deed_69 (by decide) ?_
          refine va_iast (D := D) (f := vwhich) hx hb hK hP hD hS 13 0 rfl rfl v5 dX5_deed_70 (fun H locs hP hD hS => ?_)
          have hP : va_P D vwCl (mdW K q vweight vkind vrhymes vpurse vhas vwishes vwishMany vsightLeft vsightRight vsightHow vsights vpad vpadMany (upd vact (vacts).toNatClampNeg 3) vwho (upd vwhich (vacts).toNatClampNeg 0) vwhom vacts vplace vopenMany vended vspoken vheaviest vheaviestWeight vhad vbadAct vbadWhy vbrings vbringsThen vkept visKept vkeptAt visWriting) H := hP
          have hD : va_D A (mdW K q vweight vkind vrhymes vpurse vhas vwishes vwishMany vsightLeft vsightRight vsightHow vsights vpad vpadMany (upd vact (vacts).toNatClampNeg 3) vwho (upd vwhich (vacts).toNatClampNeg 0) vwhom vacts vplace vopenMany vended vspoken vheaviest vheaviestWeight vhad vbadAct vbadWhy vbrings vbringsThen vkept visKept vkeptAt visWriting) := hD
          refine lv_iload_n hx hb dX5_deed_71 rfl (lv_at hl 0 rfl) ?_
          refine lv_if_eq (tgt := 82) hx hb dX5_deed_72 (by decide) (fun c7 => ?_) (fun c7 => ?_)
          · skip
            refine lv_iload_n hx hb dX5_deed_82 rfl (lv_at hl 2 rfl) ?_
            refine lv_bipush (v := 43) hx hb dX5_deed_83 (by decide) ?_
            refine lv_icmp_eq (tgt := 94) hx hb dX5_deed_85 (by decide) (fun c8 => ?_) (fun c8 => ?_)
            · exact absurd c8 c3
            · skip
              refine lv_iload_n hx hb dX5_deed_88 rfl (lv_at hl 2 rfl) ?_
              refine lv_bipush (v := 45) hx hb dX5_deed_89 (by decide) ?_
              refine lv_icmp_ne (tgt := 98) hx hb dX5_deed_91 (by decide) (fun c9 => ?_) (fun c9 => ?_)
              · skip
                refine lv_iload_n hx hb dX5_deed_98 rfl (lv_at hl 2 rfl) ?_
                refine lv_bipush (v := 62) hx hb dX5_deed_99 (by decide) ?_
                refine lv_icmp_ne (tgt := 108) hx hb dX5_deed_101 (by decide) (fun c10 => ?_) (fun c10 => ?_)
                · rw [if_neg c10] at hf
                  refine lv_bipush (v := (-6)) hx hb dX5_deed_108 (by decide) ?_
                  obtain rfl := Option.some.inj hf
                  exact hret rfl rfl rfl hP hD hS dX5_deed_110
                · rw [if_pos c10] at hf
                  refine lv_iconst (v := 3) hx hb dX5_deed_104 (by decide) ?_
                  refine lv_goto (tgt := 110) hx hb dX5_deed_105 (by decide) ?_
                  obtain rfl := Option.some.inj hf
                  exact hret rfl rfl rfl hP hD hS dX5_deed_110
              · exact absurd c9 c4
          · exact absurd c2 c7
        · exact absurd c2 c6
      · rw [if_pos c4] at hf
        refine lv_iconst (v := 1) hx hb dX5_deed_44 (by decide) ?_
        refine lv_goto (tgt := 49) hx hb dX5_deed_45 (by decide) ?_
        obtain ⟨v11, hf⟩ := chk_el hf
        refine va_iast (D := D) (f := vact) hx hb hK hP hD hS 11 0 rfl rfl v11 dX5_deed_49 (fun H locs hP hD hS => ?_)
        have hP : va_P D vwCl (mdW K q vweight vkind vrhymes vpurse vhas vwishes vwishMany vsightLeft vsightRight vsightHow vsights vpad vpadMany (upd vact (vacts).toNatClampNeg 1) vwho vwhich vwhom vacts vplace vopenMany vended vspoken vheaviest vheaviestWeight vhad vbadAct vbadWhy vbrings vbringsThen vkept visKept vkeptAt visWriting) H := hP
        have hD : va_D A (mdW K q vweight vkind vrhymes vpurse vhas vwishes vwishMany vsightLeft vsightRight vsightHow vsights vpad vpadMany (upd vact (vacts).toNatClampNeg 1) vwho vwhich vwhom vacts vplace vopenMany vended vspoken vheaviest vheaviestWeight vhad vbadAct vbadWhy vbrings vbringsThen vkept visKept vkeptAt visWriting) := hD
        refine lv_aload_n hx hb dX5_deed_50 rfl (lv_at hl 1 rfl) ?_
        refine va_get (D := D) (ci := 5) (v := .ref (q 13)) (C := RX5) (T := TX5) (N := 33) hx hb hts inX5_deed_X5 hown hK hP 0 rfl rfl 15 (by decide) (hts (.fieldLink RX5 46 "WordScalesModel" "which" "[I") (List.mem_of_getElem? (i := 5) rfl)) (fun _ h9 => h9) rfl dX5_deed_51 ?_
        refine lv_aload_n hx hb dX5_deed_54 rfl (lv_at hl 1 rfl) ?_
        refine va_get (D := D) (ci := 5) (v := .int vacts) (C := RX5) (T := TX5) (N := 33) hx hb hts inX5_deed_X5 hown hK hP 0 rfl rfl 17 (by decide) (hts (.fieldLink RX5 110 "WordScalesModel" "acts" "I") (List.mem_of_getElem? (i := 4) rfl)) (fun _ h9 => h9) rfl dX5_deed_55 ?_
        refine lv_iload_n hx hb dX5_deed_58 rfl (lv_at hl 0 rfl) ?_
        refine lv_if_eq (tgt := 69) hx hb dX5_deed_59 (by decide) (fun c12 => ?_) (fun c12 => ?_)
        · skip
          refine lv_iconst (v := 0) hx hb dX5_deed_69 (by decide) ?_
          refine va_iast (D := D) (f := vwhich) hx hb hK hP hD hS 13 0 rfl rfl v11 dX5_deed_70 (fun H locs hP hD hS => ?_)
          have hP : va_P D vwCl (mdW K q vweight vkind vrhymes vpurse vhas vwishes vwishMany vsightLeft vsightRight vsightHow vsights vpad vpadMany (upd vact (vacts).toNatClampNeg 1) vwho (upd vwhich (vacts).toNatClampNeg 0) vwhom vacts vplace vopenMany vended vspoken vheaviest vheaviestWeight vhad vbadAct vbadWhy vbrings vbringsThen vkept visKept vkeptAt visWriting) H := hP
          have hD : va_D A (mdW K q vweight vkind vrhymes vpurse vhas vwishes vwishMany vsightLeft vsightRight vsightHow vsights vpad vpadMany (upd vact (vacts).toNatClampNeg 1) vwho (upd vwhich (vacts).toNatClampNeg 0) vwhom vacts vplace vopenMany vended vspoken vheaviest vheaviestWeight vhad vbadAct vbadWhy vbrings vbringsThen vkept visKept vkeptAt visWriting) := hD
          refine lv_iload_n hx hb dX5_deed_71 rfl (lv_at hl 0 rfl) ?_
          refine lv_if_eq (tgt := 82) hx hb dX5_deed_72 (by decide) (fun c13 => ?_) (fun c13 => ?_)
          · skip
            refine lv_iload_n hx hb dX5_deed_82 rfl (lv_at hl 2 rfl) ?_
            refine lv_bipush (v := 43) hx hb dX5_deed_83 (by decide) ?_
            refine lv_icmp_eq (tgt := 94) hx hb dX5_deed_85 (by decide) (fun c14 => ?_) (fun c14 => ?_)
            · exact absurd c14 c3
            · skip
              refine lv_iload_n hx hb dX5_deed_88 rfl (lv_at hl 2 rfl) ?_
              refine lv_bipush (v := 45) hx hb dX5_deed_89 (by decide) ?_
              refine lv_icmp_ne (tgt := 98) hx hb dX5_deed_91 (by decide) (fun c15 => ?_) (fun c15 => ?_)
              · exact absurd c4 c15
              · skip
                refine lv_iconst (v := 2) hx hb dX5_deed_94 (by decide) ?_
                refine lv_goto (tgt := 110) hx hb dX5_deed_95 (by decide) ?_
                obtain rfl := Option.some.inj hf
                exact hret rfl rfl rfl hP hD hS dX5_deed_110
          · exact absurd c2 c13
        · exact absurd c2 c12
    · rw [if_pos c3] at hf
      refine lv_iconst (v := 0) hx hb dX5_deed_34 (by decide) ?_
      refine lv_goto (tgt := 49) hx hb dX5_deed_35 (by decide) ?_
      obtain ⟨v16, hf⟩ := chk_el hf
      refine va_iast (D := D) (f := vact) hx hb hK hP hD hS 11 0 rfl rfl v16 dX5_deed_49 (fun H locs hP hD hS => ?_)
      have hP : va_P D vwCl (mdW K q vweight vkind vrhymes vpurse vhas vwishes vwishMany vsightLeft vsightRight vsightHow vsights vpad vpadMany (upd vact (vacts).toNatClampNeg 0) vwho vwhich vwhom vacts vplace vopenMany vended vspoken vheaviest vheaviestWeight vhad vbadAct vbadWhy vbrings vbringsThen vkept visKept vkeptAt visWriting) H := hP
      have hD : va_D A (mdW K q vweight vkind vrhymes vpurse vhas vwishes vwishMany vsightLeft vsightRight vsightHow vsights vpad vpadMany (upd vact (vacts).toNatClampNeg 0) vwho vwhich vwhom vacts vplace vopenMany vended vspoken vheaviest vheaviestWeight vhad vbadAct vbadWhy vbrings vbringsThen vkept visKept vkeptAt visWriting) := hD
      refine lv_aload_n hx hb dX5_deed_50 rfl (lv_at hl 1 rfl) ?_
      refine va_get (D := D) (ci := 5) (v := .ref (q 13)) (C := RX5) (T := TX5) (N := 33) hx hb hts inX5_deed_X5 hown hK hP 0 rfl rfl 15 (by decide) (hts (.fieldLink RX5 46 "WordScalesModel" "which" "[I") (List.mem_of_getElem? (i := 5) rfl)) (fun _ h9 => h9) rfl dX5_deed_51 ?_
      refine lv_aload_n hx hb dX5_deed_54 rfl (lv_at hl 1 rfl) ?_
      refine va_get (D := D) (ci := 5) (v := .int vacts) (C := RX5) (T := TX5) (N := 33) hx hb hts inX5_deed_X5 hown hK hP 0 rfl rfl 17 (by decide) (hts (.fieldLink RX5 110 "WordScalesModel" "acts" "I") (List.mem_of_getElem? (i := 4) rfl)) (fun _ h9 => h9) rfl dX5_deed_55 ?_
      refine lv_iload_n hx hb dX5_deed_58 rfl (lv_at hl 0 rfl) ?_
      refine lv_if_eq (tgt := 69) hx hb dX5_deed_59 (by decide) (fun c17 => ?_) (fun c17 => ?_)
      · skip
        refine lv_iconst (v := 0) hx hb dX5_deed_69 (by decide) ?_
        refine va_iast (D := D) (f := vwhich) hx hb hK hP hD hS 13 0 rfl rfl v16 dX5_deed_70 (fun H locs hP hD hS => ?_)
        have hP : va_P D vwCl (mdW K q vweight vkind vrhymes vpurse vhas vwishes vwishMany vsightLeft vsightRight vsightHow vsights vpad vpadMany (upd vact (vacts).toNatClampNeg 0) vwho (upd vwhich (vacts).toNatClampNeg 0) vwhom vacts vplace vopenMany vended vspoken vheaviest vheaviestWeight vhad vbadAct vbadWhy vbrings vbringsThen vkept visKept vkeptAt visWriting) H := hP
        have hD : va_D A (mdW K q vweight vkind vrhymes vpurse vhas vwishes vwishMany vsightLeft vsightRight vsightHow vsights vpad vpadMany (upd vact (vacts).toNatClampNeg 0) vwho (upd vwhich (vacts).toNatClampNeg 0) vwhom vacts vplace vopenMany vended vspoken vheaviest vheaviestWeight vhad vbadAct vbadWhy vbrings vbringsThen vkept visKept vkeptAt visWriting) := hD
        refine lv_iload_n hx hb dX5_deed_71 rfl (lv_at hl 0 rfl) ?_
        refine lv_if_eq (tgt := 82) hx hb dX5_deed_72 (by decide) (fun c18 => ?_) (fun c18 => ?_)
        · skip
          refine lv_iload_n hx hb dX5_deed_82 rfl (lv_at hl 2 rfl) ?_
          refine lv_bipush (v := 43) hx hb dX5_deed_83 (by decide) ?_
          refine lv_icmp_eq (tgt := 94) hx hb dX5_deed_85 (by decide) (fun c19 => ?_) (fun c19 => ?_)
          · skip
            refine lv_iconst (v := 2) hx hb dX5_deed_94 (by decide) ?_
            refine lv_goto (tgt := 110) hx hb dX5_deed_95 (by decide) ?_
            obtain rfl := Option.some.inj hf
            exact hret rfl rfl rfl hP hD hS dX5_deed_110
          · exact absurd c3 c19
        · exact absurd c2 c18
      · exact absurd c2 c17
  · rw [if_neg c2] at hf
    refine lv_iconst (v := 2) hx hb dX5_deed_24 (by decide) ?_
    refine lv_goto (tgt := 49) hx hb dX5_deed_25 (by decide) ?_
    obtain ⟨v20, hf⟩ := chk_el hf
    refine va_iast (D := D) (f := vact) hx hb hK hP hD hS 11 0 rfl rfl v20 dX5_deed_49 (fun H locs hP hD hS => ?_)
    have hP : va_P D vwCl (mdW K q vweight vkind vrhymes vpurse vhas vwishes vwishMany vsightLeft vsightRight vsightHow vsights vpad vpadMany (upd vact (vacts).toNatClampNeg 2) vwho vwhich vwhom vacts vplace vopenMany vended vspoken vheaviest vheaviestWeight vhad vbadAct vbadWhy vbrings vbringsThen vkept visKept vkeptAt visWriting) H := hP
    have hD : va_D A (mdW K q vweight vkind vrhymes vpurse vhas vwishes vwishMany vsightLeft vsightRight vsightHow vsights vpad vpadMany (upd vact (vacts).toNatClampNeg 2) vwho vwhich vwhom vacts vplace vopenMany vended vspoken vheaviest vheaviestWeight vhad vbadAct vbadWhy vbrings vbringsThen vkept visKept vkeptAt visWriting) := hD
    refine lv_aload_n hx hb dX5_deed_50 rfl (lv_at hl 1 rfl) ?_
    refine va_get (D := D) (ci := 5) (v := .ref (q 13)) (C := RX5) (T := TX5) (N := 33) hx hb hts inX5_deed_X5 hown hK hP 0 rfl rfl 15 (by decide) (hts (.fieldLink RX5 46 "WordScalesModel" "which" "[I") (List.mem_of_getElem? (i := 5) rfl)) (fun _ h9 => h9) rfl dX5_deed_51 ?_
    refine lv_aload_n hx hb dX5_deed_54 rfl (lv_at hl 1 rfl) ?_
    refine va_get (D := D) (ci := 5) (v := .int vacts) (C := RX5) (T := TX5) (N := 33) hx hb hts inX5_deed_X5 hown hK hP 0 rfl rfl 17 (by decide) (hts (.fieldLink RX5 110 "WordScalesModel" "acts" "I") (List.mem_of_getElem? (i := 4) rfl)) (fun _ h9 => h9) rfl dX5_deed_55 ?_
    refine lv_iload_n hx hb dX5_deed_58 rfl (lv_at hl 0 rfl) ?_
    refine lv_if_eq (tgt := 69) hx hb dX5_deed_59 (by decide) (fun c21 => ?_) (fun c21 => ?_)
    · exact absurd c21 c2
    · skip
      refine lv_iload_n hx hb dX5_deed_62 rfl (lv_at hl 2 rfl) ?_
      refine lv_bipush (v := 97) hx hb dX5_deed_63 (by decide) ?_
      refine lv_isub hx hb dX5_deed_65 ?_
      refine lv_goto (tgt := 70) hx hb dX5_deed_66 (by decide) ?_
      refine va_iast (D := D) (f := vwhich) hx hb hK hP hD hS 13 0 rfl rfl v20 dX5_deed_70 (fun H locs hP hD hS => ?_)
      have hP : va_P D vwCl (mdW K q vweight vkind vrhymes vpurse vhas vwishes vwishMany vsightLeft vsightRight vsightHow vsights vpad vpadMany (upd vact (vacts).toNatClampNeg 2) vwho (upd vwhich (vacts).toNatClampNeg (p0 - 97)) vwhom vacts vplace vopenMany vended vspoken vheaviest vheaviestWeight vhad vbadAct vbadWhy vbrings vbringsThen vkept visKept vkeptAt visWriting) H := hP
      have hD : va_D A (mdW K q vweight vkind vrhymes vpurse vhas vwishes vwishMany vsightLeft vsightRight vsightHow vsights vpad vpadMany (upd vact (vacts).toNatClampNeg 2) vwho (upd vwhich (vacts).toNatClampNeg (p0 - 97)) vwhom vacts vplace vopenMany vended vspoken vheaviest vheaviestWeight vhad vbadAct vbadWhy vbrings vbringsThen vkept visKept vkeptAt visWriting) := hD
      refine lv_iload_n hx hb dX5_deed_71 rfl (lv_at hl 0 rfl) ?_
      refine lv_if_eq (tgt := 82) hx hb dX5_deed_72 (by decide) (fun c22 => ?_) (fun c22 => ?_)
      · exact absurd c22 c2
      · skip
        refine lv_aload_n hx hb dX5_deed_75 rfl (lv_at hl 1 rfl) ?_
        obtain ⟨o23, ho23, hf⟩ := bd_el hf
        refine kcw_i (D := D) (va_runV (As := []) (rest := []) ⟨hx, hb, hml, hown, hts⟩ ((k_X5_close l D K q vweight vkind vrhymes vpurse vhas vwishes vwishMany vsightLeft vsightRight vsightHow vsights vpad vpadMany (upd vact (vacts).toNatClampNeg 2) vwho (upd vwhich (vacts).toNatClampNeg (p0 - 97)) vwhom vacts vplace vopenMany vended vspoken vheaviest vheaviestWeight vhad vbadAct vbadWhy vbrings vbringsThen vkept visKept vkeptAt visWriting o23 ho23) H.size) (cwV 0 hts gX5_deed_X5_close rfl rfl rfl ⟨rfl, yd_X5_close⟩ ⟨Nat.le_of_ble_eq_true rfl, Nat.le_of_ble_eq_true rfl⟩) (kPreV (ci := 5) (q0 := 0) hP rfl rfl hP hD hK hN) rfl rfl hl.1 rfl (lv_room (Nat.le_of_ble_eq_true rfl)) dX5_deed_76 ⟨Nat.le_of_ble_eq_true rfl, Nat.le_of_ble_eq_true rfl⟩) hD hS hA (fun hzo23 H locs hP hD hS => ?_)
        have hP : va_P D vwCl (mdW K q vweight vkind vrhymes vpurse vhas vwishes vwishMany vsightLeft vsightRight vsightHow vsights vpad vpadMany (upd vact (vacts).toNatClampNeg 2) vwho (upd vwhich (vacts).toNatClampNeg (p0 - 97)) vwhom o23.2 vplace vopenMany vended vspoken vheaviest vheaviestWeight vhad vbadAct vbadWhy vbrings vbringsThen vkept visKept vkeptAt visWriting) H := hP
        have hD : va_D A (mdW K q vweight vkind vrhymes vpurse vhas vwishes vwishMany vsightLeft vsightRight vsightHow vsights vpad vpadMany (upd vact (vacts).toNatClampNeg 2) vwho (upd vwhich (vacts).toNatClampNeg (p0 - 97)) vwhom o23.2 vplace vopenMany vended vspoken vheaviest vheaviestWeight vhad vbadAct vbadWhy vbrings vbringsThen vkept visKept vkeptAt visWriting) := hD
        refine lv_goto (tgt := 110) hx hb dX5_deed_79 (by decide) ?_
        obtain rfl := Option.some.inj hf
        exact hret rfl rfl rfl hP hD hS dX5_deed_110
def f_X5_readOn (vact : Nat → Int32) (vwho : Nat → Int32) (vwhich : Nat → Int32) (vwhom : Nat → Int32) (vacts : Int32) (p0 : Int32) (p1 : Int32) : Option (Int32 × (Nat → Int32) × (Nat → Int32) × (Nat → Int32) × (Nat → Int32) × Int32) := if p0 = 0 then (ob (f_X5_begin vact vwho vwhich vwhom vacts p1) (fun o12 => some (o12.1, o12.2.1, o12.2.2.1, o12.2.2.2.1, o12.2.2.2.2.1, o12.2.2.2.2.2))) else (if p0 = 1 then (ob (f_X5_deed vact vwhich vacts p1) (fun o11 => some (o11.1, o11.2.1, vwho, o11.2.2.1, vwhom, o11.2.2.2))) else (if p0 = 3 then (chk vacts 60 (bd (f_X5_in p1.toInt64 (65) (68)) (fun o9 => if o9 = 0 then (some ((-6), vact, vwho, vwhich, (upd vwhom (vacts).toNatClampNeg (p1 - 65)), vacts)) else (some (2, vact, vwho, vwhich, (upd vwhom (vacts).toNatClampNeg (p1 - 65)), vacts))))) else (chk vacts 60 (bd (f_X5_in p1.toInt64 (97) (108)) (fun o5 => if o5 = 0 then (some ((-6), vact, vwho, (upd vwhich (vacts).toNatClampNeg (p1 - 97)), vwhom, vacts)) else (bd (f_X5_close vacts) (fun o7 => some (o7.1, vact, vwho, (upd vwhich (vacts).toNatClampNeg (p1 - 97)), vwhom, o7.2))))))))
theorem inX5_readOn_X5 : ∀ w ∈ wsX50, w ∈ wsX5_readOn := fun w h => List.mem_cons_of_mem _ (List.mem_append_right _ h)
theorem yd_X5_readOn : yX5_readOn.cls ≠ "java/lang/invoke/MethodHandle" ∧ yX5_readOn.cls ≠ "java/lang/invoke/VarHandle" ∧ (parseMethodDescriptor yX5_readOn.desc).map (fun d => d.parameters.length) = some 2 := by decide +kernel
abbrev rmX5_readOn : Room := { frames := 2, cells := 0, slots := 0, locals := 47 }
set_option maxHeartbeats 4000000 in
set_option maxRecDepth 100000 in
theorem k_X5_readOn (l : Launch) (D : va_G) (K : Nat → ClassId) (q : Nat → Nat) (vweight : Nat → Int32) (vkind : Nat → Int32) (vrhymes : Nat → Int32) (vpurse : Nat → Int32) (vhas : Nat → Int32) (vwishes : Nat → Int32) (vwishMany : Int32) (vsightLeft : Nat → Int32) (vsightRight : Nat → Int32) (vsightHow : Nat → Int32) (vsights : Int32) (vpad : Nat → Int32) (vpadMany : Int32) (vact : Nat → Int32) (vwho : Nat → Int32) (vwhich : Nat → Int32) (vwhom : Nat → Int32) (vacts : Int32) (vplace : Int32) (vopenMany : Int32) (vended : Int32) (vspoken : Int32) (vheaviest : Int32) (vheaviestWeight : Int32) (vhad : Nat → Int32) (vbadAct : Int32) (vbadWhy : Int32) (vbrings : Nat → Int64) (vbringsThen : Nat → Int64) (vkept : Nat → Int32) (visKept : Nat → Int32) (vkeptAt : Int32) (visWriting : Int32) (p0 : Int32) (p1 : Int32) (out : Int32 × (Nat → Int32) × (Nat → Int32) × (Nat → Int32) × (Nat → Int32) × Int32) (hf : f_X5_readOn vact vwho vwhich vwhom vacts p0 p1 = some out) : kI l D K .int yX5_readOn wsX5_readOn rmX5_readOn [.ref (q 0), .int p0, .int p1] (mdW K q vweight vkind vrhymes vpurse vhas vwishes vwishMany vsightLeft vsightRight vsightHow vsights vpad vpadMany vact vwho vwhich vwhom vacts vplace vopenMany vended vspoken vheaviest vheaviestWeight vhad vbadAct vbadWhy vbrings vbringsThen vkept visKept vkeptAt visWriting) out.1 (mdW K q vweight vkind vrhymes vpurse vhas vwishes vwishMany vsightLeft vsightRight vsightHow vsights vpad vpadMany out.2.1 out.2.2.1 out.2.2.2.1 out.2.2.2.2.1 out.2.2.2.2.2 vplace vopenMany vended vspoken vheaviest vheaviestWeight vhad vbadAct vbadWhy vbrings vbringsThen vkept visKept vkeptAt visWriting) := by
  refine kI.of (cc := cX5_readOn) (maxL := 3) (by decide) rfl (Nat.le_of_ble_eq_true rfl) ?_
  intro p e s m args below meth c A H0 Q ls hx hb hml hown hts hK hN hA hP hD hS hl hret
  have hown : s.vm.findClass RX5 = some m.cls := hown
  have hl : lv_has ls 3 [(0, .ref (q 0)), (1, .int p0), (2, .int p1)] := hl
  generalize hH : H0 = H at hP ⊢
  have hS : va_S A H0 H [] := by rw [← hH]; exact hS
  clear hH
  unfold f_X5_readOn at hf
  refine lv_iload_n hx hb dX5_readOn_0 rfl (lv_at hl 1 rfl) ?_
  refine lv_if_ne (tgt := 10) hx hb dX5_readOn_1 (by decide) (fun c1 => ?_) (fun c1 => ?_)
  · rw [if_neg c1] at hf
    refine lv_iload_n hx hb dX5_readOn_10 rfl (lv_at hl 1 rfl) ?_
    refine lv_iconst (v := 1) hx hb dX5_readOn_11 (by decide) ?_
    refine lv_icmp_ne (tgt := 21) hx hb dX5_readOn_12 (by decide) (fun c2 => ?_) (fun c2 => ?_)
    · rw [if_neg c2] at hf
      refine lv_iload_n hx hb dX5_readOn_21 rfl (lv_at hl 1 rfl) ?_
      refine lv_iconst (v := 3) hx hb dX5_readOn_22 (by decide) ?_
      refine lv_icmp_ne (tgt := 60) hx hb dX5_readOn_23 (by decide) (fun c3 => ?_) (fun c3 => ?_)
      · rw [if_neg c3] at hf
        refine lv_aload_n hx hb dX5_readOn_60 rfl (lv_at hl 0 rfl) ?_
        refine va_get (D := D) (ci := 5) (v := .ref (q 13)) (C := RX5) (T := TX5) (N := 33) hx hb hts inX5_readOn_X5 hown hK hP 0 rfl rfl 15 (by decide) (hts (.fieldLink RX5 46 "WordScalesModel" "which" "[I") (List.mem_of_getElem? (i := 5) rfl)) (fun _ h9 => h9) rfl dX5_readOn_61 ?_
        refine lv_aload_n hx hb dX5_readOn_64 rfl (lv_at hl 0 rfl) ?_
        refine va_get (D := D) (ci := 5) (v := .int vacts) (C := RX5) (T := TX5) (N := 33) hx hb hts inX5_readOn_X5 hown hK hP 0 rfl rfl 17 (by decide) (hts (.fieldLink RX5 110 "WordScalesModel" "acts" "I") (List.mem_of_getElem? (i := 2) rfl)) (fun _ h9 => h9) rfl dX5_readOn_65 ?_
        refine lv_iload_n hx hb dX5_readOn_68 rfl (lv_at hl 2 rfl) ?_
        refine lv_bipush (v := 97) hx hb dX5_readOn_69 (by decide) ?_
        refine lv_isub hx hb dX5_readOn_71 ?_
        obtain ⟨v4, hf⟩ := chk_el hf
        refine va_iast (D := D) (f := vwhich) hx hb hK hP hD hS 13 0 rfl rfl v4 dX5_readOn_72 (fun H locs hP hD hS => ?_)
        have hP : va_P D vwCl (mdW K q vweight vkind vrhymes vpurse vhas vwishes vwishMany vsightLeft vsightRight vsightHow vsights vpad vpadMany vact vwho (upd vwhich (vacts).toNatClampNeg (p1 - 97)) vwhom vacts vplace vopenMany vended vspoken vheaviest vheaviestWeight vhad vbadAct vbadWhy vbrings vbringsThen vkept visKept vkeptAt visWriting) H := hP
        have hD : va_D A (mdW K q vweight vkind vrhymes vpurse vhas vwishes vwishMany vsightLeft vsightRight vsightHow vsights vpad vpadMany vact vwho (upd vwhich (vacts).toNatClampNeg (p1 - 97)) vwhom vacts vplace vopenMany vended vspoken vheaviest vheaviestWeight vhad vbadAct vbadWhy vbrings vbringsThen vkept visKept vkeptAt visWriting) := hD
        refine lv_iload_n hx hb dX5_readOn_73 rfl (lv_at hl 2 rfl) ?_
        refine lv_i2l (v := p1.toInt64) hx hb dX5_readOn_74 rfl ?_
        refine lv_ldc2 hx hb hown (hts (.constantLong RX5 121 (97)) (List.mem_of_getElem? (i := 6) rfl)) dX5_readOn_75 ?_
        refine lv_ldc2 hx hb hown (hts (.constantLong RX5 123 (108)) (List.mem_of_getElem? (i := 7) rfl)) dX5_readOn_78 ?_
        obtain ⟨o5, ho5, hf⟩ := bd_el hf
        refine kc0_i (D := D) (va_runS (As := [.long p1.toInt64, .long 97, .long 108]) (rest := []) ⟨hx, hb, hml, hown, hts⟩ ((k_X5_in l D K p1.toInt64 (97) (108) o5 ho5) H.size) (va_cwS 3 hts gX5_readOn_X5_in rfl rfl rfl yd_X5_in ⟨Nat.le_of_ble_eq_true rfl, Nat.le_of_ble_eq_true rfl⟩) (kPreS va_P_nil (va_D_nil (A := fun _ => True)) hK hN) rfl rfl hl.1 rfl (lv_room (Nat.le_of_ble_eq_true rfl)) dX5_readOn_81 ⟨Nat.le_of_ble_eq_true rfl, Nat.le_of_ble_eq_true rfl⟩) hP hS hA (fun hzo5 H locs hP hS => ?_)
        refine lv_if_eq (tgt := 94) hx hb dX5_readOn_84 (by decide) (fun c6 => ?_) (fun c6 => ?_)
        · rw [if_pos c6] at hf
          refine lv_bipush (v := (-6)) hx hb dX5_readOn_94 (by decide) ?_
          obtain rfl := Option.some.inj hf
          exact hret rfl rfl rfl hP hD hS dX5_readOn_96
        · rw [if_neg c6] at hf
          refine lv_aload_n hx hb dX5_readOn_87 rfl (lv_at hl 0 rfl) ?_
          obtain ⟨o7, ho7, hf⟩ := bd_el hf
          refine kcw_i (D := D) (va_runV (As := []) (rest := []) ⟨hx, hb, hml, hown, hts⟩ ((k_X5_close l D K q vweight vkind vrhymes vpurse vhas vwishes vwishMany vsightLeft vsightRight vsightHow vsights vpad vpadMany vact vwho (upd vwhich (vacts).toNatClampNeg (p1 - 97)) vwhom vacts vplace vopenMany vended vspoken vheaviest vheaviestWeight vhad vbadAct vbadWhy vbrings vbringsThen vkept visKept vkeptAt visWriting o7 ho7) H.size) (cwV 0 hts gX5_readOn_X5_close rfl rfl rfl ⟨rfl, yd_X5_close⟩ ⟨Nat.le_of_ble_eq_true rfl, Nat.le_of_ble_eq_true rfl⟩) (kPreV (ci := 5) (q0 := 0) hP rfl rfl hP hD hK hN) rfl rfl hl.1 rfl (lv_room (Nat.le_of_ble_eq_true rfl)) dX5_readOn_88 ⟨Nat.le_of_ble_eq_true rfl, Nat.le_of_ble_eq_true rfl⟩) hD hS hA (fun hzo7 H locs hP hD hS => ?_)
          have hP : va_P D vwCl (mdW K q vweight vkind vrhymes vpurse vhas vwishes vwishMany vsightLeft vsightRight vsightHow vsights vpad vpadMany vact vwho (upd vwhich (vacts).toNatClampNeg (p1 - 97)) vwhom o7.2 vplace vopenMany vended vspoken vheaviest vheaviestWeight vhad vbadAct vbadWhy vbrings vbringsThen vkept visKept vkeptAt visWriting) H := hP
          have hD : va_D A (mdW K q vweight vkind vrhymes vpurse vhas vwishes vwishMany vsightLeft vsightRight vsightHow vsights vpad vpadMany vact vwho (upd vwhich (vacts).toNatClampNeg (p1 - 97)) vwhom o7.2 vplace vopenMany vended vspoken vheaviest vheaviestWeight vhad vbadAct vbadWhy vbrings vbringsThen vkept visKept vkeptAt visWriting) := hD
          refine lv_goto (tgt := 96) hx hb dX5_readOn_91 (by decide) ?_
          obtain rfl := Option.some.inj hf
          exact hret rfl rfl rfl hP hD hS dX5_readOn_96
      · rw [if_pos c3] at hf
        refine lv_aload_n hx hb dX5_readOn_26 rfl (lv_at hl 0 rfl) ?_
        refine va_get (D := D) (ci := 5) (v := .ref (q 14)) (C := RX5) (T := TX5) (N := 33) hx hb hts inX5_readOn_X5 hown hK hP 0 rfl rfl 16 (by decide) (hts (.fieldLink RX5 49 "WordScalesModel" "whom" "[I") (List.mem_of_getElem? (i := 1) rfl)) (fun _ h9 => h9) rfl dX5_readOn_27 ?_
        refine lv_aload_n hx hb dX5_readOn_30 rfl (lv_at hl 0 rfl) ?_
        refine va_get (D := D) (ci := 5) (v := .int vacts) (C := RX5) (T := TX5) (N := 33) hx hb hts inX5_readOn_X5 hown hK hP 0 rfl rfl 17 (by decide) (hts (.fieldLink RX5 110 "WordScalesModel" "acts" "I") (List.mem_of_getElem? (i := 2) rfl)) (fun _ h9 => h9) rfl dX5_readOn_31 ?_
        refine lv_iload_n hx hb dX5_readOn_34 rfl (lv_at hl 2 rfl) ?_
        refine lv_bipush (v := 65) hx hb dX5_readOn_35 (by decide) ?_
        refine lv_isub hx hb dX5_readOn_37 ?_
        obtain ⟨v8, hf⟩ := chk_el hf
        refine va_iast (D := D) (f := vwhom) hx hb hK hP hD hS 14 0 rfl rfl v8 dX5_readOn_38 (fun H locs hP hD hS => ?_)
        have hP : va_P D vwCl (mdW K q vweight vkind vrhymes vpurse vhas vwishes vwishMany vsightLeft vsightRight vsightHow vsights vpad vpadMany vact vwho vwhich (upd vwhom (vacts).toNatClampNeg (p1 - 65)) vacts vplace vopenMany vended vspoken vheaviest vheaviestWeight vhad vbadAct vbadWhy vbrings vbringsThen vkept visKept vkeptAt visWriting) H := hP
        have hD : va_D A (mdW K q vweight vkind vrhymes vpurse vhas vwishes vwishMany vsightLeft vsightRight vsightHow vsights vpad vpadMany vact vwho vwhich (upd vwhom (vacts).toNatClampNeg (p1 - 65)) vacts vplace vopenMany vended vspoken vheaviest vheaviestWeight vhad vbadAct vbadWhy vbrings vbringsThen vkept visKept vkeptAt visWriting) := hD
        refine lv_iload_n hx hb dX5_readOn_39 rfl (lv_at hl 2 rfl) ?_
        refine lv_i2l (v := p1.toInt64) hx hb dX5_readOn_40 rfl ?_
        refine lv_ldc2 hx hb hown (hts (.constantLong RX5 113 (65)) (List.mem_of_getElem? (i := 3) rfl)) dX5_readOn_41 ?_
        refine lv_ldc2 hx hb hown (hts (.constantLong RX5 115 (68)) (List.mem_of_getElem? (i := 4) rfl)) dX5_readOn_44 ?_
        obtain ⟨o9, ho9, hf⟩ := bd_el hf
        refine kc0_i (D := D) (va_runS (As := [.long p1.toInt64, .long 65, .long 68]) (rest := []) ⟨hx, hb, hml, hown, hts⟩ ((k_X5_in l D K p1.toInt64 (65) (68) o9 ho9) H.size) (va_cwS 3 hts gX5_readOn_X5_in rfl rfl rfl yd_X5_in ⟨Nat.le_of_ble_eq_true rfl, Nat.le_of_ble_eq_true rfl⟩) (kPreS va_P_nil (va_D_nil (A := fun _ => True)) hK hN) rfl rfl hl.1 rfl (lv_room (Nat.le_of_ble_eq_true rfl)) dX5_readOn_47 ⟨Nat.le_of_ble_eq_true rfl, Nat.le_of_ble_eq_true rfl⟩) hP hS hA (fun hzo9 H locs hP hS => ?_)
        refine lv_if_eq (tgt := 57) hx hb dX5_readOn_50 (by decide) (fun c10 => ?_) (fun c10 => ?_)
        · rw [if_pos c10] at hf
          refine lv_bipush (v := (-6)) hx hb dX5_readOn_57 (by decide) ?_
          obtain rfl := Option.some.inj hf
          exact hret rfl rfl rfl hP hD hS dX5_readOn_59
        · rw [if_neg c10] at hf
          refine lv_iconst (v := 2) hx hb dX5_readOn_53 (by decide) ?_
          refine lv_goto (tgt := 59) hx hb dX5_readOn_54 (by decide) ?_
          obtain rfl := Option.some.inj hf
          exact hret rfl rfl rfl hP hD hS dX5_readOn_59
    · rw [if_pos c2] at hf
      refine lv_aload_n hx hb dX5_readOn_15 rfl (lv_at hl 0 rfl) ?_
      refine lv_iload_n hx hb dX5_readOn_16 rfl (lv_at hl 2 rfl) ?_
      obtain ⟨o11, ho11, hf⟩ := ob_el hf
      refine kcw_i (D := D) (va_runV (As := [.int p1]) (rest := []) ⟨hx, hb, hml, hown, hts⟩ ((k_X5_deed l D K q vweight vkind vrhymes vpurse vhas vwishes vwishMany vsightLeft vsightRight vsightHow vsights vpad vpadMany vact vwho vwhich vwhom vacts vplace vopenMany vended vspoken vheaviest vheaviestWeight vhad vbadAct vbadWhy vbrings vbringsThen vkept visKept vkeptAt visWriting p1 o11 ho11) H.size) (cwV 1 hts gX5_readOn_X5_deed rfl rfl rfl ⟨rfl, yd_X5_deed⟩ ⟨Nat.le_of_ble_eq_true rfl, Nat.le_of_ble_eq_true rfl⟩) (kPreV (ci := 5) (q0 := 0) hP rfl rfl hP hD hK hN) rfl rfl hl.1 rfl (lv_room (Nat.le_of_ble_eq_true rfl)) dX5_readOn_17 ⟨Nat.le_of_ble_eq_true rfl, Nat.le_of_ble_eq_true rfl⟩) hD hS hA (fun hzo11 H locs hP hD hS => ?_)
      have hP : va_P D vwCl (mdW K q vweight vkind vrhymes vpurse vhas vwishes vwishMany vsightLeft vsightRight vsightHow vsights vpad vpadMany o11.2.1 vwho o11.2.2.1 vwhom o11.2.2.2 vplace vopenMany vended vspoken vheaviest vheaviestWeight vhad vbadAct vbadWhy vbrings vbringsThen vkept visKept vkeptAt visWriting) H := hP
      have hD : va_D A (mdW K q vweight vkind vrhymes vpurse vhas vwishes vwishMany vsightLeft vsightRight vsightHow vsights vpad vpadMany o11.2.1 vwho o11.2.2.1 vwhom o11.2.2.2 vplace vopenMany vended vspoken vheaviest vheaviestWeight vhad vbadAct vbadWhy vbrings vbringsThen vkept visKept vkeptAt visWriting) := hD
      obtain rfl := Option.some.inj hf
      exact hret rfl rfl rfl hP hD hS dX5_readOn_20
  · rw [if_pos c1] at hf
    refine lv_aload_n hx hb dX5_readOn_4 rfl (lv_at hl 0 rfl) ?_
    refine lv_iload_n hx hb dX5_readOn_5 rfl (lv_at hl 2 rfl) ?_
    obtain ⟨o12, ho12, hf⟩ := ob_el hf
    refine kcw_i (D := D) (va_runV (As := [.int p1]) (rest := []) ⟨hx, hb, hml, hown, hts⟩ ((k_X5_begin l D K q vweight vkind vrhymes vpurse vhas vwishes vwishMany vsightLeft vsightRight vsightHow vsights vpad vpadMany vact vwho vwhich vwhom vacts vplace vopenMany vended vspoken vheaviest vheaviestWeight vhad vbadAct vbadWhy vbrings vbringsThen vkept visKept vkeptAt visWriting p1 o12 ho12) H.size) (cwV 1 hts gX5_readOn_X5_begin rfl rfl rfl ⟨rfl, yd_X5_begin⟩ ⟨Nat.le_of_ble_eq_true rfl, Nat.le_of_ble_eq_true rfl⟩) (kPreV (ci := 5) (q0 := 0) hP rfl rfl hP hD hK hN) rfl rfl hl.1 rfl (lv_room (Nat.le_of_ble_eq_true rfl)) dX5_readOn_6 ⟨Nat.le_of_ble_eq_true rfl, Nat.le_of_ble_eq_true rfl⟩) hD hS hA (fun hzo12 H locs hP hD hS => ?_)
    have hP : va_P D vwCl (mdW K q vweight vkind vrhymes vpurse vhas vwishes vwishMany vsightLeft vsightRight vsightHow vsights vpad vpadMany o12.2.1 o12.2.2.1 o12.2.2.2.1 o12.2.2.2.2.1 o12.2.2.2.2.2 vplace vopenMany vended vspoken vheaviest vheaviestWeight vhad vbadAct vbadWhy vbrings vbringsThen vkept visKept vkeptAt visWriting) H := hP
    have hD : va_D A (mdW K q vweight vkind vrhymes vpurse vhas vwishes vwishMany vsightLeft vsightRight vsightHow vsights vpad vpadMany o12.2.1 o12.2.2.1 o12.2.2.2.1 o12.2.2.2.2.1 o12.2.2.2.2.2 vplace vopenMany vended vspoken vheaviest vheaviestWeight vhad vbadAct vbadWhy vbrings vbringsThen vkept visKept vkeptAt visWriting) := hD
    obtain rfl := Option.some.inj hf
    exact hret rfl rfl rfl hP hD hS dX5_readOn_9
def s_X5_fault_9 (vpad : Nat → Int32) (vpadMany : Int32) (x : Int32 × Int32 × (Nat → Int32) × Int32 × (Nat → Int32) × (Nat → Int32) × (Nat → Int32)) : Option ((Int32 × Int32 × (Nat → Int32) × Int32 × (Nat → Int32) × (Nat → Int32) × (Nat → Int32)) ⊕ ((Int32 × Int32 × (Nat → Int32) × Int32 × (Nat → Int32) × (Nat → Int32) × (Nat → Int32)) ⊕ (Int32 × (Nat → Int32) × (Nat → Int32) × (Nat → Int32) × (Nat → Int32) × Int32))) := if vpadMany ≤ x.2.1 then (some (.inr (.inl (x.1, x.2.1, x.2.2.1, x.2.2.2.1, x.2.2.2.2.1, x.2.2.2.2.2.1, x.2.2.2.2.2.2)))) else (chk x.2.1 60 (ob (f_X5_readOn x.2.2.1 x.2.2.2.2.2.1 x.2.2.2.2.1 x.2.2.2.2.2.2 x.2.2.2.1 x.1 (vpad (x.2.1).toNatClampNeg)) (fun o5 => if 0 ≤ o5.1 then (some (.inl (o5.1, (x.2.1 + 1), o5.2.1, o5.2.2.2.2.2, o5.2.2.2.1, o5.2.2.1, o5.2.2.2.2.1))) else (some (.inr (.inr (x.2.1, o5.2.1, o5.2.2.1, o5.2.2.2.1, o5.2.2.2.2.1, o5.2.2.2.2.2)))))))
def f_X5_fault (vpad : Nat → Int32) (vpadMany : Int32) (vact : Nat → Int32) (vwho : Nat → Int32) (vwhich : Nat → Int32) (vwhom : Nat → Int32) : Option (Int32 × (Nat → Int32) × (Nat → Int32) × (Nat → Int32) × (Nat → Int32) × Int32) := ob (wh (s_X5_fault_9 vpad vpadMany) 5000 (0, 0, vact, 0, vwhich, vwho, vwhom)) (ret2 (fun r1 => if r1.1 = 0 then (some ((-6), r1.2.2.1, r1.2.2.2.2.2.1, r1.2.2.2.2.1, r1.2.2.2.2.2.2, r1.2.2.2.1)) else (some (vpadMany, r1.2.2.1, r1.2.2.2.2.2.1, r1.2.2.2.2.1, r1.2.2.2.2.2.2, r1.2.2.2.1))))
theorem inX5_fault_X5 : ∀ w ∈ wsX50, w ∈ wsX5_fault := fun w h => List.mem_cons_of_mem _ (List.mem_append_right _ h)
theorem yd_X5_fault : yX5_fault.cls ≠ "java/lang/invoke/MethodHandle" ∧ yX5_fault.cls ≠ "java/lang/invoke/VarHandle" ∧ (parseMethodDescriptor yX5_fault.desc).map (fun d => d.parameters.length) = some 0 := by decide +kernel
abbrev rmX5_fault : Room := { frames := 3, cells := 0, slots := 0, locals := 69 }
set_option maxHeartbeats 4000000 in
set_option maxRecDepth 100000 in
theorem k_X5_fault (l : Launch) (D : va_G) (K : Nat → ClassId) (q : Nat → Nat) (vweight : Nat → Int32) (vkind : Nat → Int32) (vrhymes : Nat → Int32) (vpurse : Nat → Int32) (vhas : Nat → Int32) (vwishes : Nat → Int32) (vwishMany : Int32) (vsightLeft : Nat → Int32) (vsightRight : Nat → Int32) (vsightHow : Nat → Int32) (vsights : Int32) (vpad : Nat → Int32) (vpadMany : Int32) (vact : Nat → Int32) (vwho : Nat → Int32) (vwhich : Nat → Int32) (vwhom : Nat → Int32) (vacts : Int32) (vplace : Int32) (vopenMany : Int32) (vended : Int32) (vspoken : Int32) (vheaviest : Int32) (vheaviestWeight : Int32) (vhad : Nat → Int32) (vbadAct : Int32) (vbadWhy : Int32) (vbrings : Nat → Int64) (vbringsThen : Nat → Int64) (vkept : Nat → Int32) (visKept : Nat → Int32) (vkeptAt : Int32) (visWriting : Int32) (out : Int32 × (Nat → Int32) × (Nat → Int32) × (Nat → Int32) × (Nat → Int32) × Int32) (hf : f_X5_fault vpad vpadMany vact vwho vwhich vwhom = some out) : kI l D K .int yX5_fault wsX5_fault rmX5_fault [.ref (q 0)] (mdW K q vweight vkind vrhymes vpurse vhas vwishes vwishMany vsightLeft vsightRight vsightHow vsights vpad vpadMany vact vwho vwhich vwhom vacts vplace vopenMany vended vspoken vheaviest vheaviestWeight vhad vbadAct vbadWhy vbrings vbringsThen vkept visKept vkeptAt visWriting) out.1 (mdW K q vweight vkind vrhymes vpurse vhas vwishes vwishMany vsightLeft vsightRight vsightHow vsights vpad vpadMany out.2.1 out.2.2.1 out.2.2.2.1 out.2.2.2.2.1 out.2.2.2.2.2 vplace vopenMany vended vspoken vheaviest vheaviestWeight vhad vbadAct vbadWhy vbrings vbringsThen vkept visKept vkeptAt visWriting) := by
  refine kI.of (cc := cX5_fault) (maxL := 3) (by decide) rfl (Nat.le_of_ble_eq_true rfl) ?_
  intro p e s m args below meth c A H0 Q ls hx hb hml hown hts hK hN hA hP hD hS hl hret
  have hown : s.vm.findClass RX5 = some m.cls := hown
  have hl : lv_has ls 3 [(0, .ref (q 0))] := hl
  generalize hH : H0 = H at hP ⊢
  have hS : va_S A H0 H [] := by rw [← hH]; exact hS
  clear hH
  unfold f_X5_fault at hf
  refine lv_aload_n hx hb dX5_fault_0 rfl (lv_at hl 0 rfl) ?_
  refine lv_iconst (v := 0) hx hb dX5_fault_1 (by decide) ?_
  refine va_put (D := D) (ci := 5) (v := .int 0) (ty := .int) (C := RX5) (T := TX5) (N := 33) hx hb hts inX5_fault_X5 tyX5 tyX5_ok nmX5 hown hK hP hD hS 0 rfl rfl 17 (by decide) (hts (.fieldLink RX5 110 "WordScalesModel" "acts" "I") (List.mem_of_getElem? (i := 1) rfl)) (fun _ h9 => h9) rfl (tyX5_ok 17 (by decide)) rfl rfl (Nat.le_of_ble_eq_true rfl) dX5_fault_2 (fun H locs hP hD hS => ?_)
  have hP : va_P D vwCl (mdW K q vweight vkind vrhymes vpurse vhas vwishes vwishMany vsightLeft vsightRight vsightHow vsights vpad vpadMany vact vwho vwhich vwhom 0 vplace vopenMany vended vspoken vheaviest vheaviestWeight vhad vbadAct vbadWhy vbrings vbringsThen vkept visKept vkeptAt visWriting) H := hP
  have hD : va_D A (mdW K q vweight vkind vrhymes vpurse vhas vwishes vwishMany vsightLeft vsightRight vsightHow vsights vpad vpadMany vact vwho vwhich vwhom 0 vplace vopenMany vended vspoken vheaviest vheaviestWeight vhad vbadAct vbadWhy vbrings vbringsThen vkept visKept vkeptAt visWriting) := hD
  refine lv_iconst (v := 0) hx hb dX5_fault_5 (by decide) ?_
  refine lv_istore_n (lv' := [(1, .int 0), (0, .ref (q 0))]) hx hb dX5_fault_6 rfl hl (by decide) rfl (fun ls hl => ?_)
  refine lv_iconst (v := 0) hx hb dX5_fault_7 (by decide) ?_
  refine lv_istore_n (lv' := [(2, .int 0), (1, .int 0), (0, .ref (q 0))]) hx hb dX5_fault_8 rfl hl (by decide) rfl (fun ls hl => ?_)
  obtain ⟨r1, hr1, hf⟩ := ob_el hf
  have post9 : ∀ (e9_l1 : Int32) (e9_l2 : Int32) (e9_act : Nat → Int32) (e9_acts : Int32) (e9_which : Nat → Int32) (e9_who : Nat → Int32) (e9_whom : Nat → Int32) (H : Heap) (locs : List Loc) (ls : Array Slot), (if e9_l1 = 0 then (some ((-6), e9_act, e9_who, e9_which, e9_whom, e9_acts)) else (some (vpadMany, e9_act, e9_who, e9_which, e9_whom, e9_acts))) = some out → va_P D vwCl (mdW K q vweight vkind vrhymes vpurse vhas vwishes vwishMany vsightLeft vsightRight vsightHow vsights vpad vpadMany e9_act e9_who e9_which e9_whom e9_acts vplace vopenMany vended vspoken vheaviest vheaviestWeight vhad vbadAct vbadWhy vbrings vbringsThen vkept visKept vkeptAt visWriting) H → va_D A (mdW K q vweight vkind vrhymes vpurse vhas vwishes vwishMany vsightLeft vsightRight vsightHow vsights vpad vpadMany e9_act e9_who e9_which e9_whom e9_acts vplace vopenMany vended vspoken vheaviest vheaviestWeight vhad vbadAct vbadWhy vbrings vbringsThen vkept visKept vkeptAt visWriting) → va_S A H0 H locs → lv_has ls 3 [(2, .int e9_l2), (1, .int e9_l1), (0, .ref (q 0))] → W p l e rmX5_fault s m args below meth c H locs 0 0 Q (F0 m 41 ls []) := by
    intro e9_l1 e9_l2 e9_act e9_acts e9_which e9_who e9_whom H locs ls hf hP hD hS hl
    refine lv_iload_n hx hb dX5_fault_41 rfl (lv_at hl 1 rfl) ?_
    refine lv_if_ne (tgt := 50) hx hb dX5_fault_42 (by decide) (fun c2 => ?_) (fun c2 => ?_)
    · rw [if_neg c2] at hf
      refine lv_aload_n hx hb dX5_fault_50 rfl (lv_at hl 2 rfl) ?_
      refine va_get (D := D) (ci := 5) (v := .int vpadMany) (C := RX5) (T := TX5) (N := 33) hx hb hts inX5_fault_X5 hown hK hP 0 rfl rfl 12 (by decide) (hts (.fieldLink RX5 106 "WordScalesModel" "padMany" "I") (List.mem_of_getElem? (i := 2) rfl)) (fun _ h9 => h9) rfl dX5_fault_51 ?_
      obtain rfl := Option.some.inj hf
      exact hret rfl rfl rfl hP hD hS dX5_fault_54
    · rw [if_pos c2] at hf
      refine lv_bipush (v := (-6)) hx hb dX5_fault_45 (by decide) ?_
      refine lv_goto (tgt := 54) hx hb dX5_fault_47 (by decide) ?_
      obtain rfl := Option.some.inj hf
      exact hret rfl rfl rfl hP hD hS dX5_fault_54
  have lp9 : ∀ (fu : Nat) (x9_l1 : Int32) (x9_l2 : Int32) (x9_act : Nat → Int32) (x9_acts : Int32) (x9_which : Nat → Int32) (x9_who : Nat → Int32) (x9_whom : Nat → Int32) (H : Heap) (locs : List Loc) (ls : Array Slot), wh (s_X5_fault_9 vpad vpadMany) fu (x9_l1, x9_l2, x9_act, x9_acts, x9_which, x9_who, x9_whom) = some r1 → va_P D vwCl (mdW K q vweight vkind vrhymes vpurse vhas vwishes vwishMany vsightLeft vsightRight vsightHow vsights vpad vpadMany x9_act x9_who x9_which x9_whom x9_acts vplace vopenMany vended vspoken vheaviest vheaviestWeight vhad vbadAct vbadWhy vbrings vbringsThen vkept visKept vkeptAt visWriting) H → va_D A (mdW K q vweight vkind vrhymes vpurse vhas vwishes vwishMany vsightLeft vsightRight vsightHow vsights vpad vpadMany x9_act x9_who x9_which x9_whom x9_acts vplace vopenMany vended vspoken vheaviest vheaviestWeight vhad vbadAct vbadWhy vbrings vbringsThen vkept visKept vkeptAt visWriting) → va_S A H0 H locs → lv_has ls 3 [(2, .int x9_l2), (1, .int x9_l1), (0, .ref (q 0))] → W p l e rmX5_fault s m args below meth c H locs 0 0 Q (F0 m 9 ls []) := by
    intro fu
    induction fu with
    | zero => intro x9_l1 x9_l2 x9_act x9_acts x9_which x9_who x9_whom H locs ls hw9; cases hw9
    | succ fu ih9 =>
      intro x9_l1 x9_l2 x9_act x9_acts x9_which x9_who x9_whom H locs ls hw9 hP hD hS hl
      obtain ⟨o9_, hs9, hw9⟩ := wh_el hw9
      unfold s_X5_fault_9 at hs9
      dsimp only at hs9
      refine lv_iload_n hx hb dX5_fault_9 rfl (lv_at hl 0 rfl) ?_
      refine lv_aload_n hx hb dX5_fault_10 rfl (lv_at hl 2 rfl) ?_
      refine va_get (D := D) (ci := 5) (v := .int vpadMany) (C := RX5) (T := TX5) (N := 33) hx hb hts inX5_fault_X5 hown hK hP 0 rfl rfl 12 (by decide) (hts (.fieldLink RX5 106 "WordScalesModel" "padMany" "I") (List.mem_of_getElem? (i := 2) rfl)) (fun _ h9 => h9) rfl dX5_fault_11 ?_
      refine lv_icmp_ge (tgt := 41) hx hb dX5_fault_14 (by decide) (fun c3 => ?_) (fun c3 => ?_)
      · rw [if_pos c3] at hs9
        obtain rfl := Option.some.inj hs9
        have e9 := Option.some.inj hw9
        rw [← e9] at hf
        exact post9 _ _ _ _ _ _ _ _ _ _ hf hP hD hS (lv_sub hl [0, 1, 2] rfl)
      · rw [if_neg c3] at hs9
        refine lv_aload_n hx hb dX5_fault_17 rfl (lv_at hl 2 rfl) ?_
        refine lv_iload_n hx hb dX5_fault_18 rfl (lv_at hl 1 rfl) ?_
        refine lv_aload_n hx hb dX5_fault_19 rfl (lv_at hl 2 rfl) ?_
        refine va_get (D := D) (ci := 5) (v := .ref (q 10)) (C := RX5) (T := TX5) (N := 33) hx hb hts inX5_fault_X5 hown hK hP 0 rfl rfl 11 (by decide) (hts (.fieldLink RX5 37 "WordScalesModel" "pad" "[I") (List.mem_of_getElem? (i := 3) rfl)) (fun _ h9 => h9) rfl dX5_fault_20 ?_
        refine lv_iload_n hx hb dX5_fault_23 rfl (lv_at hl 0 rfl) ?_
        obtain ⟨v4, hs9⟩ := chk_el hs9
        refine va_iald (D := D) (f := vpad) hx hb hK hP 10 0 rfl rfl v4 dX5_fault_24 ?_
        obtain ⟨o5, ho5, hs9⟩ := ob_el hs9
        refine kcw_i (D := D) (va_runV (As := [.int x9_l1, .int (vpad (x9_l2).toNatClampNeg)]) (rest := []) ⟨hx, hb, hml, hown, hts⟩ ((k_X5_readOn l D K q vweight vkind vrhymes vpurse vhas vwishes vwishMany vsightLeft vsightRight vsightHow vsights vpad vpadMany x9_act x9_who x9_which x9_whom x9_acts vplace vopenMany vended vspoken vheaviest vheaviestWeight vhad vbadAct vbadWhy vbrings vbringsThen vkept visKept vkeptAt visWriting x9_l1 (vpad (x9_l2).toNatClampNeg) o5 ho5) H.size) (cwV 2 hts gX5_fault_X5_readOn rfl rfl rfl ⟨rfl, yd_X5_readOn⟩ ⟨Nat.le_of_ble_eq_true rfl, Nat.le_of_ble_eq_true rfl⟩) (kPreV (ci := 5) (q0 := 0) hP rfl rfl hP hD hK hN) rfl rfl hl.1 rfl (lv_room (Nat.le_of_ble_eq_true rfl)) dX5_fault_25 ⟨Nat.le_of_ble_eq_true rfl, Nat.le_of_ble_eq_true rfl⟩) hD hS hA (fun hzo5 H locs hP hD hS => ?_)
        have hP : va_P D vwCl (mdW K q vweight vkind vrhymes vpurse vhas vwishes vwishMany vsightLeft vsightRight vsightHow vsights vpad vpadMany o5.2.1 o5.2.2.1 o5.2.2.2.1 o5.2.2.2.2.1 o5.2.2.2.2.2 vplace vopenMany vended vspoken vheaviest vheaviestWeight vhad vbadAct vbadWhy vbrings vbringsThen vkept visKept vkeptAt visWriting) H := hP
        have hD : va_D A (mdW K q vweight vkind vrhymes vpurse vhas vwishes vwishMany vsightLeft vsightRight vsightHow vsights vpad vpadMany o5.2.1 o5.2.2.1 o5.2.2.2.1 o5.2.2.2.2.1 o5.2.2.2.2.2 vplace vopenMany vended vspoken vheaviest vheaviestWeight vhad vbadAct vbadWhy vbrings vbringsThen vkept visKept vkeptAt visWriting) := hD
        refine lv_istore_n (lv' := [(1, .int o5.1), (2, .int x9_l2), (0, .ref (q 0))]) hx hb dX5_fault_28 rfl hl (by decide) rfl (fun ls hl => ?_)
        refine lv_iload_n hx hb dX5_fault_29 rfl (lv_at hl 0 rfl) ?_
        refine lv_if_ge (tgt := 35) hx hb dX5_fault_30 (by decide) (fun c6 => ?_) (fun c6 => ?_)
        · rw [if_pos c6] at hs9
          refine lv_iinc (v := (x9_l2 + 1)) (lv' := [(2, .int (x9_l2 + 1)), (1, .int o5.1), (0, .ref (q 0))]) hx hb dX5_fault_35 hl (k := 1) rfl (by rfl) (by decide) rfl (fun ls hl => ?_)
          refine lv_goto (tgt := 9) hx hb dX5_fault_38 (by decide) ?_
          obtain rfl := Option.some.inj hs9
          exact ih9 _ _ _ _ _ _ _ _ _ _ hw9 hP hD hS (lv_sub hl [0, 1, 2] rfl)
        · rw [if_neg c6] at hs9
          refine lv_iload_n hx hb dX5_fault_33 rfl (lv_at hl 1 rfl) ?_
          obtain rfl := Option.some.inj hs9
          have e9 := Option.some.inj hw9
          rw [← e9] at hf
          obtain rfl := Option.some.inj (show some (x9_l2, o5.2.1, o5.2.2.1, o5.2.2.2.1, o5.2.2.2.2.1, o5.2.2.2.2.2) = some out from hf)
          exact hret rfl rfl rfl hP hD hS dX5_fault_34
  exact lp9 5000 _ _ _ _ _ _ _ _ _ _ hr1 hP hD hS (lv_sub hl [0, 1, 2] rfl)
def f_X5_hasWord (vhas : Nat → Int32) (p0 : Int32) (p1 : Int32) : Option (Int32) := chk p0 4 (if (((vhas (p0).toNatClampNeg) >>> (p1 &&& 31)) &&& 1) = 1 then (some 1) else (some 0))
theorem inX5_hasWord_X5 : ∀ w ∈ wsX50, w ∈ wsX5_hasWord := fun w h => List.mem_cons_of_mem _ (List.mem_append_right _ h)
theorem yd_X5_hasWord : yX5_hasWord.cls ≠ "java/lang/invoke/MethodHandle" ∧ yX5_hasWord.cls ≠ "java/lang/invoke/VarHandle" ∧ (parseMethodDescriptor yX5_hasWord.desc).map (fun d => d.parameters.length) = some 2 := by decide +kernel
abbrev rmX5_hasWord : Room := { frames := 0, cells := 0, slots := 0, locals := 0 }
set_option maxHeartbeats 4000000 in
set_option maxRecDepth 100000 in
theorem k_X5_hasWord (l : Launch) (D : va_G) (K : Nat → ClassId) (q : Nat → Nat) (vweight : Nat → Int32) (vkind : Nat → Int32) (vrhymes : Nat → Int32) (vpurse : Nat → Int32) (vhas : Nat → Int32) (vwishes : Nat → Int32) (vwishMany : Int32) (vsightLeft : Nat → Int32) (vsightRight : Nat → Int32) (vsightHow : Nat → Int32) (vsights : Int32) (vpad : Nat → Int32) (vpadMany : Int32) (vact : Nat → Int32) (vwho : Nat → Int32) (vwhich : Nat → Int32) (vwhom : Nat → Int32) (vacts : Int32) (vplace : Int32) (vopenMany : Int32) (vended : Int32) (vspoken : Int32) (vheaviest : Int32) (vheaviestWeight : Int32) (vhad : Nat → Int32) (vbadAct : Int32) (vbadWhy : Int32) (vbrings : Nat → Int64) (vbringsThen : Nat → Int64) (vkept : Nat → Int32) (visKept : Nat → Int32) (vkeptAt : Int32) (visWriting : Int32) (p0 : Int32) (p1 : Int32) (out : Int32) (hf : f_X5_hasWord vhas p0 p1 = some out) : kI l D K .boolean yX5_hasWord wsX5_hasWord rmX5_hasWord [.ref (q 0), .int p0, .int p1] (mdW K q vweight vkind vrhymes vpurse vhas vwishes vwishMany vsightLeft vsightRight vsightHow vsights vpad vpadMany vact vwho vwhich vwhom vacts vplace vopenMany vended vspoken vheaviest vheaviestWeight vhad vbadAct vbadWhy vbrings vbringsThen vkept visKept vkeptAt visWriting) out (mdW K q vweight vkind vrhymes vpurse vhas vwishes vwishMany vsightLeft vsightRight vsightHow vsights vpad vpadMany vact vwho vwhich vwhom vacts vplace vopenMany vended vspoken vheaviest vheaviestWeight vhad vbadAct vbadWhy vbrings vbringsThen vkept visKept vkeptAt visWriting) := by
  refine kI.of (cc := cX5_hasWord) (maxL := 3) (by decide) rfl (Nat.le_of_ble_eq_true rfl) ?_
  intro p e s m args below meth c A H0 Q ls hx hb hml hown hts hK hN hA hP hD hS hl hret
  have hown : s.vm.findClass RX5 = some m.cls := hown
  have hl : lv_has ls 3 [(0, .ref (q 0)), (1, .int p0), (2, .int p1)] := hl
  generalize hH : H0 = H at hP ⊢
  have hS : va_S A H0 H [] := by rw [← hH]; exact hS
  clear hH
  unfold f_X5_hasWord at hf
  refine lv_aload_n hx hb dX5_hasWord_0 rfl (lv_at hl 0 rfl) ?_
  refine va_get (D := D) (ci := 5) (v := .ref (q 5)) (C := RX5) (T := TX5) (N := 33) hx hb hts inX5_hasWord_X5 hown hK hP 0 rfl rfl 4 (by decide) (hts (.fieldLink RX5 22 "WordScalesModel" "has" "[I") (List.mem_of_getElem? (i := 1) rfl)) (fun _ h9 => h9) rfl dX5_hasWord_1 ?_
  refine lv_iload_n hx hb dX5_hasWord_4 rfl (lv_at hl 1 rfl) ?_
  obtain ⟨v1, hf⟩ := chk_el hf
  refine va_iald (D := D) (f := vhas) hx hb hK hP 5 0 rfl rfl v1 dX5_hasWord_5 ?_
  refine lv_iload_n hx hb dX5_hasWord_6 rfl (lv_at hl 2 rfl) ?_
  refine lv_ishr hx hb dX5_hasWord_7 ?_
  refine lv_iconst (v := 1) hx hb dX5_hasWord_8 (by decide) ?_
  refine lv_iand hx hb dX5_hasWord_9 ?_
  refine lv_iconst (v := 1) hx hb dX5_hasWord_10 (by decide) ?_
  refine lv_icmp_ne (tgt := 18) hx hb dX5_hasWord_11 (by decide) (fun c2 => ?_) (fun c2 => ?_)
  · rw [if_neg c2] at hf
    refine lv_iconst (v := 0) hx hb dX5_hasWord_18 (by decide) ?_
    obtain rfl := Option.some.inj hf
    exact hret rfl rfl rfl hP hD hS dX5_hasWord_19
  · rw [if_pos c2] at hf
    refine lv_iconst (v := 1) hx hb dX5_hasWord_14 (by decide) ?_
    refine lv_goto (tgt := 19) hx hb dX5_hasWord_15 (by decide) ?_
    obtain rfl := Option.some.inj hf
    exact hret rfl rfl rfl hP hD hS dX5_hasWord_19
def f_X5_placeThen (vplace : Int32) (p0 : Int32) : Int32 := if vplace = 0 then (if p0 = 2 then (0) else (if p0 = 0 then (1) else (5))) else (if vplace = 1 then (if p0 = 1 then (2) else (5)) else (if vplace = 2 then (if p0 = 2 then (3) else (if p0 = 0 then (4) else (5))) else (if vplace = 3 then (if p0 = 2 then (3) else (if p0 = 0 then (4) else (5))) else (5))))
theorem inX5_placeThen_X5 : ∀ w ∈ wsX50, w ∈ wsX5_placeThen := fun w h => List.mem_cons_of_mem _ (List.mem_append_right _ h)
theorem yd_X5_placeThen : yX5_placeThen.cls ≠ "java/lang/invoke/MethodHandle" ∧ yX5_placeThen.cls ≠ "java/lang/invoke/VarHandle" ∧ (parseMethodDescriptor yX5_placeThen.desc).map (fun d => d.parameters.length) = some 1 := by decide +kernel
abbrev rmX5_placeThen : Room := { frames := 0, cells := 0, slots := 0, locals := 0 }
set_option maxHeartbeats 4000000 in
set_option maxRecDepth 100000 in
theorem k_X5_placeThen (l : Launch) (D : va_G) (K : Nat → ClassId) (q : Nat → Nat) (vweight : Nat → Int32) (vkind : Nat → Int32) (vrhymes : Nat → Int32) (vpurse : Nat → Int32) (vhas : Nat → Int32) (vwishes : Nat → Int32) (vwishMany : Int32) (vsightLeft : Nat → Int32) (vsightRight : Nat → Int32) (vsightHow : Nat → Int32) (vsights : Int32) (vpad : Nat → Int32) (vpadMany : Int32) (vact : Nat → Int32) (vwho : Nat → Int32) (vwhich : Nat → Int32) (vwhom : Nat → Int32) (vacts : Int32) (vplace : Int32) (vopenMany : Int32) (vended : Int32) (vspoken : Int32) (vheaviest : Int32) (vheaviestWeight : Int32) (vhad : Nat → Int32) (vbadAct : Int32) (vbadWhy : Int32) (vbrings : Nat → Int64) (vbringsThen : Nat → Int64) (vkept : Nat → Int32) (visKept : Nat → Int32) (vkeptAt : Int32) (visWriting : Int32) (p0 : Int32) (out : Int32) (hf : f_X5_placeThen vplace p0 = out) : kI l D K .int yX5_placeThen wsX5_placeThen rmX5_placeThen [.ref (q 0), .int p0] (mdW K q vweight vkind vrhymes vpurse vhas vwishes vwishMany vsightLeft vsightRight vsightHow vsights vpad vpadMany vact vwho vwhich vwhom vacts vplace vopenMany vended vspoken vheaviest vheaviestWeight vhad vbadAct vbadWhy vbrings vbringsThen vkept visKept vkeptAt visWriting) out (mdW K q vweight vkind vrhymes vpurse vhas vwishes vwishMany vsightLeft vsightRight vsightHow vsights vpad vpadMany vact vwho vwhich vwhom vacts vplace vopenMany vended vspoken vheaviest vheaviestWeight vhad vbadAct vbadWhy vbrings vbringsThen vkept visKept vkeptAt visWriting) := by
  refine kI.of (cc := cX5_placeThen) (maxL := 2) (by decide) rfl (Nat.le_of_ble_eq_true rfl) ?_
  intro p e s m args below meth c A H0 Q ls hx hb hml hown hts hK hN hA hP hD hS hl hret
  have hown : s.vm.findClass RX5 = some m.cls := hown
  have hl : lv_has ls 2 [(0, .ref (q 0)), (1, .int p0)] := hl
  generalize hH : H0 = H at hP ⊢
  have hS : va_S A H0 H [] := by rw [← hH]; exact hS
  clear hH
  unfold f_X5_placeThen at hf
  refine lv_aload_n hx hb dX5_placeThen_0 rfl (lv_at hl 0 rfl) ?_
  refine va_get (D := D) (ci := 5) (v := .int vplace) (C := RX5) (T := TX5) (N := 33) hx hb hts inX5_placeThen_X5 hown hK hP 0 rfl rfl 18 (by decide) (hts (.fieldLink RX5 135 "WordScalesModel" "place" "I") (List.mem_of_getElem? (i := 1) rfl)) (fun _ h9 => h9) rfl dX5_placeThen_1 ?_
  refine lv_tab4 (t0 := 36) (t1 := 55) (t2 := 66) (t3 := 66) (td := 85) hx hb dX5_placeThen_4 (by decide) (by decide) (by decide) (by decide) (by decide) (fun c1 => ?_) (fun c1 c2 => ?_) (fun c1 c2 c3 => ?_) (fun c1 c2 c3 c4 => ?_) (fun c1 c2 c3 c4 => ?_)
  · rw [if_pos c1] at hf
    refine lv_iload_n hx hb dX5_placeThen_36 rfl (lv_at hl 1 rfl) ?_
    refine lv_iconst (v := 2) hx hb dX5_placeThen_37 (by decide) ?_
    refine lv_icmp_ne (tgt := 45) hx hb dX5_placeThen_38 (by decide) (fun c5 => ?_) (fun c5 => ?_)
    · rw [if_neg c5] at hf
      refine lv_iload_n hx hb dX5_placeThen_45 rfl (lv_at hl 1 rfl) ?_
      refine lv_if_ne (tgt := 53) hx hb dX5_placeThen_46 (by decide) (fun c6 => ?_) (fun c6 => ?_)
      · rw [if_neg c6] at hf
        refine lv_iconst (v := 5) hx hb dX5_placeThen_53 (by decide) ?_
        subst hf
        exact hret rfl rfl rfl hP hD hS dX5_placeThen_54
      · rw [if_pos c6] at hf
        refine lv_iconst (v := 1) hx hb dX5_placeThen_49 (by decide) ?_
        refine lv_goto (tgt := 54) hx hb dX5_placeThen_50 (by decide) ?_
        subst hf
        exact hret rfl rfl rfl hP hD hS dX5_placeThen_54
    · rw [if_pos c5] at hf
      refine lv_iconst (v := 0) hx hb dX5_placeThen_41 (by decide) ?_
      refine lv_goto (tgt := 54) hx hb dX5_placeThen_42 (by decide) ?_
      subst hf
      exact hret rfl rfl rfl hP hD hS dX5_placeThen_54
  · rw [if_neg c1, if_pos c2] at hf
    refine lv_iload_n hx hb dX5_placeThen_55 rfl (lv_at hl 1 rfl) ?_
    refine lv_iconst (v := 1) hx hb dX5_placeThen_56 (by decide) ?_
    refine lv_icmp_ne (tgt := 64) hx hb dX5_placeThen_57 (by decide) (fun c7 => ?_) (fun c7 => ?_)
    · rw [if_neg c7] at hf
      refine lv_iconst (v := 5) hx hb dX5_placeThen_64 (by decide) ?_
      subst hf
      exact hret rfl rfl rfl hP hD hS dX5_placeThen_65
    · rw [if_pos c7] at hf
      refine lv_iconst (v := 2) hx hb dX5_placeThen_60 (by decide) ?_
      refine lv_goto (tgt := 65) hx hb dX5_placeThen_61 (by decide) ?_
      subst hf
      exact hret rfl rfl rfl hP hD hS dX5_placeThen_65
  · rw [if_neg c1, if_neg c2, if_pos c3] at hf
    refine lv_iload_n hx hb dX5_placeThen_66 rfl (lv_at hl 1 rfl) ?_
    refine lv_iconst (v := 2) hx hb dX5_placeThen_67 (by decide) ?_
    refine lv_icmp_ne (tgt := 75) hx hb dX5_placeThen_68 (by decide) (fun c8 => ?_) (fun c8 => ?_)
    · rw [if_neg c8] at hf
      refine lv_iload_n hx hb dX5_placeThen_75 rfl (lv_at hl 1 rfl) ?_
      refine lv_if_ne (tgt := 83) hx hb dX5_placeThen_76 (by decide) (fun c9 => ?_) (fun c9 => ?_)
      · rw [if_neg c9] at hf
        refine lv_iconst (v := 5) hx hb dX5_placeThen_83 (by decide) ?_
        subst hf
        exact hret rfl rfl rfl hP hD hS dX5_placeThen_84
      · rw [if_pos c9] at hf
        refine lv_iconst (v := 4) hx hb dX5_placeThen_79 (by decide) ?_
        refine lv_goto (tgt := 84) hx hb dX5_placeThen_80 (by decide) ?_
        subst hf
        exact hret rfl rfl rfl hP hD hS dX5_placeThen_84
    · rw [if_pos c8] at hf
      refine lv_iconst (v := 3) hx hb dX5_placeThen_71 (by decide) ?_
      refine lv_goto (tgt := 84) hx hb dX5_placeThen_72 (by decide) ?_
      subst hf
      exact hret rfl rfl rfl hP hD hS dX5_placeThen_84
  · rw [if_neg c1, if_neg c2, if_neg c3, if_pos c4] at hf
    refine lv_iload_n hx hb dX5_placeThen_66 rfl (lv_at hl 1 rfl) ?_
    refine lv_iconst (v := 2) hx hb dX5_placeThen_67 (by decide) ?_
    refine lv_icmp_ne (tgt := 75) hx hb dX5_placeThen_68 (by decide) (fun c10 => ?_) (fun c10 => ?_)
    · rw [if_neg c10] at hf
      refine lv_iload_n hx hb dX5_placeThen_75 rfl (lv_at hl 1 rfl) ?_
      refine lv_if_ne (tgt := 83) hx hb dX5_placeThen_76 (by decide) (fun c11 => ?_) (fun c11 => ?_)
      · rw [if_neg c11] at hf
        refine lv_iconst (v := 5) hx hb dX5_placeThen_83 (by decide) ?_
        subst hf
        exact hret rfl rfl rfl hP hD hS dX5_placeThen_84
      · rw [if_pos c11] at hf
        refine lv_iconst (v := 4) hx hb dX5_placeThen_79 (by decide) ?_
        refine lv_goto (tgt := 84) hx hb dX5_placeThen_80 (by decide) ?_
        subst hf
        exact hret rfl rfl rfl hP hD hS dX5_placeThen_84
    · rw [if_pos c10] at hf
      refine lv_iconst (v := 3) hx hb dX5_placeThen_71 (by decide) ?_
      refine lv_goto (tgt := 84) hx hb dX5_placeThen_72 (by decide) ?_
      subst hf
      exact hret rfl rfl rfl hP hD hS dX5_placeThen_84
  · rw [if_neg c1, if_neg c2, if_neg c3, if_neg c4] at hf
    refine lv_iconst (v := 5) hx hb dX5_placeThen_85 (by decide) ?_
    subst hf
    exact hret rfl rfl rfl hP hD hS dX5_placeThen_86
def f_X5_whyNot (vweight : Nat → Int32) (vpurse : Nat → Int32) (vhas : Nat → Int32) (vplace : Int32) (p0 : Int32) (p1 : Int32) (p2 : Int32) (p3 : Int32) : Option (Int32) := if p0 = 0 then (ob (f_X5_hasWord vhas p1 p2) (fun o5 => if o5 = 0 then (chk p1 4 (chk p2 12 (if (vweight (p2).toNatClampNeg) ≤ (vpurse (p1).toNatClampNeg) then (some 0) else (some 3)))) else (some 1))) else (if p0 = 1 then (ob (f_X5_hasWord vhas p1 p2) (fun o10 => if o10 = 0 then (some 2) else (chk p1 4 (chk p2 12 (if ((vpurse (p1).toNatClampNeg) + ((vweight (p2).toNatClampNeg) / 2)) ≤ 999 then (some 0) else (some 4)))))) else (if p0 = 2 then (ob (f_X5_hasWord vhas p1 p2) (fun o15 => if o15 = 0 then (some 2) else (some 0))) else (if p0 = 3 then (ob (f_X5_hasWord vhas p3 p2) (fun o17 => if o17 = 0 then (ob (f_X5_hasWord vhas p1 p2) (fun o19 => if o19 = 0 then (some 2) else (some 0))) else (some 1))) else (if vplace = 2 then (some 0) else (if vplace = 4 then (some 0) else (some 5))))))
theorem inX5_whyNot_X5 : ∀ w ∈ wsX50, w ∈ wsX5_whyNot := fun w h => List.mem_cons_of_mem _ (List.mem_append_right _ h)
theorem yd_X5_whyNot : yX5_whyNot.cls ≠ "java/lang/invoke/MethodHandle" ∧ yX5_whyNot.cls ≠ "java/lang/invoke/VarHandle" ∧ (parseMethodDescriptor yX5_whyNot.desc).map (fun d => d.parameters.length) = some 4 := by decide +kernel
abbrev rmX5_whyNot : Room := { frames := 1, cells := 0, slots := 0, locals := 22 }
set_option maxHeartbeats 4000000 in
set_option maxRecDepth 100000 in
theorem k_X5_whyNot (l : Launch) (D : va_G) (K : Nat → ClassId) (q : Nat → Nat) (vweight : Nat → Int32) (vkind : Nat → Int32) (vrhymes : Nat → Int32) (vpurse : Nat → Int32) (vhas : Nat → Int32) (vwishes : Nat → Int32) (vwishMany : Int32) (vsightLeft : Nat → Int32) (vsightRight : Nat → Int32) (vsightHow : Nat → Int32) (vsights : Int32) (vpad : Nat → Int32) (vpadMany : Int32) (vact : Nat → Int32) (vwho : Nat → Int32) (vwhich : Nat → Int32) (vwhom : Nat → Int32) (vacts : Int32) (vplace : Int32) (vopenMany : Int32) (vended : Int32) (vspoken : Int32) (vheaviest : Int32) (vheaviestWeight : Int32) (vhad : Nat → Int32) (vbadAct : Int32) (vbadWhy : Int32) (vbrings : Nat → Int64) (vbringsThen : Nat → Int64) (vkept : Nat → Int32) (visKept : Nat → Int32) (vkeptAt : Int32) (visWriting : Int32) (p0 : Int32) (p1 : Int32) (p2 : Int32) (p3 : Int32) (out : Int32) (hf : f_X5_whyNot vweight vpurse vhas vplace p0 p1 p2 p3 = some out) : kI l D K .int yX5_whyNot wsX5_whyNot rmX5_whyNot [.ref (q 0), .int p0, .int p1, .int p2, .int p3] (mdW K q vweight vkind vrhymes vpurse vhas vwishes vwishMany vsightLeft vsightRight vsightHow vsights vpad vpadMany vact vwho vwhich vwhom vacts vplace vopenMany vended vspoken vheaviest vheaviestWeight vhad vbadAct vbadWhy vbrings vbringsThen vkept visKept vkeptAt visWriting) out (mdW K q vweight vkind vrhymes vpurse vhas vwishes vwishMany vsightLeft vsightRight vsightHow vsights vpad vpadMany vact vwho vwhich vwhom vacts vplace vopenMany vended vspoken vheaviest vheaviestWeight vhad vbadAct vbadWhy vbrings vbringsThen vkept visKept vkeptAt visWriting) := by
  refine kI.of (cc := cX5_whyNot) (maxL := 5) (by decide) rfl (Nat.le_of_ble_eq_true rfl) ?_
  intro p e s m args below meth c A H0 Q ls hx hb hml hown hts hK hN hA hP hD hS hl hret
  have hown : s.vm.findClass RX5 = some m.cls := hown
  have hl : lv_has ls 5 [(0, .ref (q 0)), (1, .int p0), (2, .int p1), (3, .int p2), (4, .int p3)] := hl
  generalize hH : H0 = H at hP ⊢
  have hS : va_S A H0 H [] := by rw [← hH]; exact hS
  clear hH
  unfold f_X5_whyNot at hf
  refine lv_iload_n hx hb dX5_whyNot_0 rfl (lv_at hl 1 rfl) ?_
  refine lv_tab4 (t0 := 32) (t1 := 66) (t2 := 106) (t3 := 121) (td := 150) hx hb dX5_whyNot_1 (by decide) (by decide) (by decide) (by decide) (by decide) (fun c1 => ?_) (fun c1 c2 => ?_) (fun c1 c2 c3 => ?_) (fun c1 c2 c3 c4 => ?_) (fun c1 c2 c3 c4 => ?_)
  · rw [if_pos c1] at hf
    refine lv_aload_n hx hb dX5_whyNot_32 rfl (lv_at hl 0 rfl) ?_
    refine lv_iload_n hx hb dX5_whyNot_33 rfl (lv_at hl 2 rfl) ?_
    refine lv_iload_n hx hb dX5_whyNot_34 rfl (lv_at hl 3 rfl) ?_
    obtain ⟨o5, ho5, hf⟩ := ob_el hf
    refine kcw_i (D := D) (va_runV (As := [.int p1, .int p2]) (rest := []) ⟨hx, hb, hml, hown, hts⟩ ((k_X5_hasWord l D K q vweight vkind vrhymes vpurse vhas vwishes vwishMany vsightLeft vsightRight vsightHow vsights vpad vpadMany vact vwho vwhich vwhom vacts vplace vopenMany vended vspoken vheaviest vheaviestWeight vhad vbadAct vbadWhy vbrings vbringsThen vkept visKept vkeptAt visWriting p1 p2 o5 ho5) H.size) (cwV 2 hts gX5_whyNot_X5_hasWord rfl rfl rfl ⟨rfl, yd_X5_hasWord⟩ ⟨Nat.le_of_ble_eq_true rfl, Nat.le_of_ble_eq_true rfl⟩) (kPreV (ci := 5) (q0 := 0) hP rfl rfl hP hD hK hN) rfl rfl hl.1 rfl (lv_room (Nat.le_of_ble_eq_true rfl)) dX5_whyNot_35 ⟨Nat.le_of_ble_eq_true rfl, Nat.le_of_ble_eq_true rfl⟩) hD hS hA (fun hzo5 H locs hP hD hS => ?_)
    have hP : va_P D vwCl (mdW K q vweight vkind vrhymes vpurse vhas vwishes vwishMany vsightLeft vsightRight vsightHow vsights vpad vpadMany vact vwho vwhich vwhom vacts vplace vopenMany vended vspoken vheaviest vheaviestWeight vhad vbadAct vbadWhy vbrings vbringsThen vkept visKept vkeptAt visWriting) H := hP
    have hD : va_D A (mdW K q vweight vkind vrhymes vpurse vhas vwishes vwishMany vsightLeft vsightRight vsightHow vsights vpad vpadMany vact vwho vwhich vwhom vacts vplace vopenMany vended vspoken vheaviest vheaviestWeight vhad vbadAct vbadWhy vbrings vbringsThen vkept visKept vkeptAt visWriting) := hD
    refine lv_if_eq (tgt := 45) hx hb dX5_whyNot_38 (by decide) (fun c6 => ?_) (fun c6 => ?_)
    · rw [if_pos c6] at hf
      refine lv_aload_n hx hb dX5_whyNot_45 rfl (lv_at hl 0 rfl) ?_
      refine va_get (D := D) (ci := 5) (v := .ref (q 4)) (C := RX5) (T := TX5) (N := 33) hx hb hts inX5_whyNot_X5 hown hK hP 0 rfl rfl 3 (by decide) (hts (.fieldLink RX5 19 "WordScalesModel" "purse" "[I") (List.mem_of_getElem? (i := 1) rfl)) (fun _ h9 => h9) rfl dX5_whyNot_46 ?_
      refine lv_iload_n hx hb dX5_whyNot_49 rfl (lv_at hl 2 rfl) ?_
      obtain ⟨v7, hf⟩ := chk_el hf
      refine va_iald (D := D) (f := vpurse) hx hb hK hP 4 0 rfl rfl v7 dX5_whyNot_50 ?_
      refine lv_aload_n hx hb dX5_whyNot_51 rfl (lv_at hl 0 rfl) ?_
      refine va_get (D := D) (ci := 5) (v := .ref (q 1)) (C := RX5) (T := TX5) (N := 33) hx hb hts inX5_whyNot_X5 hown hK hP 0 rfl rfl 0 (by decide) (hts (.fieldLink RX5 7 "WordScalesModel" "weight" "[I") (List.mem_of_getElem? (i := 2) rfl)) (fun _ h9 => h9) rfl dX5_whyNot_52 ?_
      refine lv_iload_n hx hb dX5_whyNot_55 rfl (lv_at hl 3 rfl) ?_
      obtain ⟨v8, hf⟩ := chk_el hf
      refine va_iald (D := D) (f := vweight) hx hb hK hP 1 0 rfl rfl v8 dX5_whyNot_56 ?_
      refine lv_icmp_ge (tgt := 64) hx hb dX5_whyNot_57 (by decide) (fun c9 => ?_) (fun c9 => ?_)
      · rw [if_pos c9] at hf
        refine lv_iconst (v := 0) hx hb dX5_whyNot_64 (by decide) ?_
        obtain rfl := Option.some.inj hf
        exact hret rfl rfl rfl hP hD hS dX5_whyNot_65
      · rw [if_neg c9] at hf
        refine lv_iconst (v := 3) hx hb dX5_whyNot_60 (by decide) ?_
        refine lv_goto (tgt := 65) hx hb dX5_whyNot_61 (by decide) ?_
        obtain rfl := Option.some.inj hf
        exact hret rfl rfl rfl hP hD hS dX5_whyNot_65
    · rw [if_neg c6] at hf
      refine lv_iconst (v := 1) hx hb dX5_whyNot_41 (by decide) ?_
      refine lv_goto (tgt := 65) hx hb dX5_whyNot_42 (by decide) ?_
      obtain rfl := Option.some.inj hf
      exact hret rfl rfl rfl hP hD hS dX5_whyNot_65
  · rw [if_neg c1, if_pos c2] at hf
    refine lv_aload_n hx hb dX5_whyNot_66 rfl (lv_at hl 0 rfl) ?_
    refine lv_iload_n hx hb dX5_whyNot_67 rfl (lv_at hl 2 rfl) ?_
    refine lv_iload_n hx hb dX5_whyNot_68 rfl (lv_at hl 3 rfl) ?_
    obtain ⟨o10, ho10, hf⟩ := ob_el hf
    refine kcw_i (D := D) (va_runV (As := [.int p1, .int p2]) (rest := []) ⟨hx, hb, hml, hown, hts⟩ ((k_X5_hasWord l D K q vweight vkind vrhymes vpurse vhas vwishes vwishMany vsightLeft vsightRight vsightHow vsights vpad vpadMany vact vwho vwhich vwhom vacts vplace vopenMany vended vspoken vheaviest vheaviestWeight vhad vbadAct vbadWhy vbrings vbringsThen vkept visKept vkeptAt visWriting p1 p2 o10 ho10) H.size) (cwV 2 hts gX5_whyNot_X5_hasWord rfl rfl rfl ⟨rfl, yd_X5_hasWord⟩ ⟨Nat.le_of_ble_eq_true rfl, Nat.le_of_ble_eq_true rfl⟩) (kPreV (ci := 5) (q0 := 0) hP rfl rfl hP hD hK hN) rfl rfl hl.1 rfl (lv_room (Nat.le_of_ble_eq_true rfl)) dX5_whyNot_69 ⟨Nat.le_of_ble_eq_true rfl, Nat.le_of_ble_eq_true rfl⟩) hD hS hA (fun hzo10 H locs hP hD hS => ?_)
    have hP : va_P D vwCl (mdW K q vweight vkind vrhymes vpurse vhas vwishes vwishMany vsightLeft vsightRight vsightHow vsights vpad vpadMany vact vwho vwhich vwhom vacts vplace vopenMany vended vspoken vheaviest vheaviestWeight vhad vbadAct vbadWhy vbrings vbringsThen vkept visKept vkeptAt visWriting) H := hP
    have hD : va_D A (mdW K q vweight vkind vrhymes vpurse vhas vwishes vwishMany vsightLeft vsightRight vsightHow vsights vpad vpadMany vact vwho vwhich vwhom vacts vplace vopenMany vended vspoken vheaviest vheaviestWeight vhad vbadAct vbadWhy vbrings vbringsThen vkept visKept vkeptAt visWriting) := hD
    refine lv_if_ne (tgt := 79) hx hb dX5_whyNot_72 (by decide) (fun c11 => ?_) (fun c11 => ?_)
    · rw [if_neg c11] at hf
      refine lv_aload_n hx hb dX5_whyNot_79 rfl (lv_at hl 0 rfl) ?_
      refine va_get (D := D) (ci := 5) (v := .ref (q 4)) (C := RX5) (T := TX5) (N := 33) hx hb hts inX5_whyNot_X5 hown hK hP 0 rfl rfl 3 (by decide) (hts (.fieldLink RX5 19 "WordScalesModel" "purse" "[I") (List.mem_of_getElem? (i := 1) rfl)) (fun _ h9 => h9) rfl dX5_whyNot_80 ?_
      refine lv_iload_n hx hb dX5_whyNot_83 rfl (lv_at hl 2 rfl) ?_
      obtain ⟨v12, hf⟩ := chk_el hf
      refine va_iald (D := D) (f := vpurse) hx hb hK hP 4 0 rfl rfl v12 dX5_whyNot_84 ?_
      refine lv_aload_n hx hb dX5_whyNot_85 rfl (lv_at hl 0 rfl) ?_
      refine va_get (D := D) (ci := 5) (v := .ref (q 1)) (C := RX5) (T := TX5) (N := 33) hx hb hts inX5_whyNot_X5 hown hK hP 0 rfl rfl 0 (by decide) (hts (.fieldLink RX5 7 "WordScalesModel" "weight" "[I") (List.mem_of_getElem? (i := 2) rfl)) (fun _ h9 => h9) rfl dX5_whyNot_86 ?_
      refine lv_iload_n hx hb dX5_whyNot_89 rfl (lv_at hl 3 rfl) ?_
      obtain ⟨v13, hf⟩ := chk_el hf
      refine va_iald (D := D) (f := vweight) hx hb hK hP 1 0 rfl rfl v13 dX5_whyNot_90 ?_
      refine lv_iconst (v := 2) hx hb dX5_whyNot_91 (by decide) ?_
      refine lv_idiv hx hb dX5_whyNot_92 (by decide) ?_
      refine lv_iadd hx hb dX5_whyNot_93 ?_
      refine lv_sipush (v := 999) hx hb dX5_whyNot_94 (by decide) ?_
      refine lv_icmp_le (tgt := 104) hx hb dX5_whyNot_97 (by decide) (fun c14 => ?_) (fun c14 => ?_)
      · rw [if_pos c14] at hf
        refine lv_iconst (v := 0) hx hb dX5_whyNot_104 (by decide) ?_
        obtain rfl := Option.some.inj hf
        exact hret rfl rfl rfl hP hD hS dX5_whyNot_105
      · rw [if_neg c14] at hf
        refine lv_iconst (v := 4) hx hb dX5_whyNot_100 (by decide) ?_
        refine lv_goto (tgt := 105) hx hb dX5_whyNot_101 (by decide) ?_
        obtain rfl := Option.some.inj hf
        exact hret rfl rfl rfl hP hD hS dX5_whyNot_105
    · rw [if_pos c11] at hf
      refine lv_iconst (v := 2) hx hb dX5_whyNot_75 (by decide) ?_
      refine lv_goto (tgt := 105) hx hb dX5_whyNot_76 (by decide) ?_
      obtain rfl := Option.some.inj hf
      exact hret rfl rfl rfl hP hD hS dX5_whyNot_105
  · rw [if_neg c1, if_neg c2, if_pos c3] at hf
    refine lv_aload_n hx hb dX5_whyNot_106 rfl (lv_at hl 0 rfl) ?_
    refine lv_iload_n hx hb dX5_whyNot_107 rfl (lv_at hl 2 rfl) ?_
    refine lv_iload_n hx hb dX5_whyNot_108 rfl (lv_at hl 3 rfl) ?_
    obtain ⟨o15, ho15, hf⟩ := ob_el hf
    refine kcw_i (D := D) (va_runV (As := [.int p1, .int p2]) (rest := []) ⟨hx, hb, hml, hown, hts⟩ ((k_X5_hasWord l D K q vweight vkind vrhymes vpurse vhas vwishes vwishMany vsightLeft vsightRight vsightHow vsights vpad vpadMany vact vwho vwhich vwhom vacts vplace vopenMany vended vspoken vheaviest vheaviestWeight vhad vbadAct vbadWhy vbrings vbringsThen vkept visKept vkeptAt visWriting p1 p2 o15 ho15) H.size) (cwV 2 hts gX5_whyNot_X5_hasWord rfl rfl rfl ⟨rfl, yd_X5_hasWord⟩ ⟨Nat.le_of_ble_eq_true rfl, Nat.le_of_ble_eq_true rfl⟩) (kPreV (ci := 5) (q0 := 0) hP rfl rfl hP hD hK hN) rfl rfl hl.1 rfl (lv_room (Nat.le_of_ble_eq_true rfl)) dX5_whyNot_109 ⟨Nat.le_of_ble_eq_true rfl, Nat.le_of_ble_eq_true rfl⟩) hD hS hA (fun hzo15 H locs hP hD hS => ?_)
    have hP : va_P D vwCl (mdW K q vweight vkind vrhymes vpurse vhas vwishes vwishMany vsightLeft vsightRight vsightHow vsights vpad vpadMany vact vwho vwhich vwhom vacts vplace vopenMany vended vspoken vheaviest vheaviestWeight vhad vbadAct vbadWhy vbrings vbringsThen vkept visKept vkeptAt visWriting) H := hP
    have hD : va_D A (mdW K q vweight vkind vrhymes vpurse vhas vwishes vwishMany vsightLeft vsightRight vsightHow vsights vpad vpadMany vact vwho vwhich vwhom vacts vplace vopenMany vended vspoken vheaviest vheaviestWeight vhad vbadAct vbadWhy vbrings vbringsThen vkept visKept vkeptAt visWriting) := hD
    refine lv_if_eq (tgt := 119) hx hb dX5_whyNot_112 (by decide) (fun c16 => ?_) (fun c16 => ?_)
    · rw [if_pos c16] at hf
      refine lv_iconst (v := 2) hx hb dX5_whyNot_119 (by decide) ?_
      obtain rfl := Option.some.inj hf
      exact hret rfl rfl rfl hP hD hS dX5_whyNot_120
    · rw [if_neg c16] at hf
      refine lv_iconst (v := 0) hx hb dX5_whyNot_115 (by decide) ?_
      refine lv_goto (tgt := 120) hx hb dX5_whyNot_116 (by decide) ?_
      obtain rfl := Option.some.inj hf
      exact hret rfl rfl rfl hP hD hS dX5_whyNot_120
  · rw [if_neg c1, if_neg c2, if_neg c3, if_pos c4] at hf
    refine lv_aload_n hx hb dX5_whyNot_121 rfl (lv_at hl 0 rfl) ?_
    refine lv_iload hx hb dX5_whyNot_122 (lv_at hl 4 rfl) ?_
    refine lv_iload_n hx hb dX5_whyNot_124 rfl (lv_at hl 3 rfl) ?_
    obtain ⟨o17, ho17, hf⟩ := ob_el hf
    refine kcw_i (D := D) (va_runV (As := [.int p3, .int p2]) (rest := []) ⟨hx, hb, hml, hown, hts⟩ ((k_X5_hasWord l D K q vweight vkind vrhymes vpurse vhas vwishes vwishMany vsightLeft vsightRight vsightHow vsights vpad vpadMany vact vwho vwhich vwhom vacts vplace vopenMany vended vspoken vheaviest vheaviestWeight vhad vbadAct vbadWhy vbrings vbringsThen vkept visKept vkeptAt visWriting p3 p2 o17 ho17) H.size) (cwV 2 hts gX5_whyNot_X5_hasWord rfl rfl rfl ⟨rfl, yd_X5_hasWord⟩ ⟨Nat.le_of_ble_eq_true rfl, Nat.le_of_ble_eq_true rfl⟩) (kPreV (ci := 5) (q0 := 0) hP rfl rfl hP hD hK hN) rfl rfl hl.1 rfl (lv_room (Nat.le_of_ble_eq_true rfl)) dX5_whyNot_125 ⟨Nat.le_of_ble_eq_true rfl, Nat.le_of_ble_eq_true rfl⟩) hD hS hA (fun hzo17 H locs hP hD hS => ?_)
    have hP : va_P D vwCl (mdW K q vweight vkind vrhymes vpurse vhas vwishes vwishMany vsightLeft vsightRight vsightHow vsights vpad vpadMany vact vwho vwhich vwhom vacts vplace vopenMany vended vspoken vheaviest vheaviestWeight vhad vbadAct vbadWhy vbrings vbringsThen vkept visKept vkeptAt visWriting) H := hP
    have hD : va_D A (mdW K q vweight vkind vrhymes vpurse vhas vwishes vwishMany vsightLeft vsightRight vsightHow vsights vpad vpadMany vact vwho vwhich vwhom vacts vplace vopenMany vended vspoken vheaviest vheaviestWeight vhad vbadAct vbadWhy vbrings vbringsThen vkept visKept vkeptAt visWriting) := hD
    refine lv_if_eq (tgt := 135) hx hb dX5_whyNot_128 (by decide) (fun c18 => ?_) (fun c18 => ?_)
    · rw [if_pos c18] at hf
      refine lv_aload_n hx hb dX5_whyNot_135 rfl (lv_at hl 0 rfl) ?_
      refine lv_iload_n hx hb dX5_whyNot_136 rfl (lv_at hl 2 rfl) ?_
      refine lv_iload_n hx hb dX5_whyNot_137 rfl (lv_at hl 3 rfl) ?_
      obtain ⟨o19, ho19, hf⟩ := ob_el hf
      refine kcw_i (D := D) (va_runV (As := [.int p1, .int p2]) (rest := []) ⟨hx, hb, hml, hown, hts⟩ ((k_X5_hasWord l D K q vweight vkind vrhymes vpurse vhas vwishes vwishMany vsightLeft vsightRight vsightHow vsights vpad vpadMany vact vwho vwhich vwhom vacts vplace vopenMany vended vspoken vheaviest vheaviestWeight vhad vbadAct vbadWhy vbrings vbringsThen vkept visKept vkeptAt visWriting p1 p2 o19 ho19) H.size) (cwV 2 hts gX5_whyNot_X5_hasWord rfl rfl rfl ⟨rfl, yd_X5_hasWord⟩ ⟨Nat.le_of_ble_eq_true rfl, Nat.le_of_ble_eq_true rfl⟩) (kPreV (ci := 5) (q0 := 0) hP rfl rfl hP hD hK hN) rfl rfl hl.1 rfl (lv_room (Nat.le_of_ble_eq_true rfl)) dX5_whyNot_138 ⟨Nat.le_of_ble_eq_true rfl, Nat.le_of_ble_eq_true rfl⟩) hD hS hA (fun hzo19 H locs hP hD hS => ?_)
      have hP : va_P D vwCl (mdW K q vweight vkind vrhymes vpurse vhas vwishes vwishMany vsightLeft vsightRight vsightHow vsights vpad vpadMany vact vwho vwhich vwhom vacts vplace vopenMany vended vspoken vheaviest vheaviestWeight vhad vbadAct vbadWhy vbrings vbringsThen vkept visKept vkeptAt visWriting) H := hP
      have hD : va_D A (mdW K q vweight vkind vrhymes vpurse vhas vwishes vwishMany vsightLeft vsightRight vsightHow vsights vpad vpadMany vact vwho vwhich vwhom vacts vplace vopenMany vended vspoken vheaviest vheaviestWeight vhad vbadAct vbadWhy vbrings vbringsThen vkept visKept vkeptAt visWriting) := hD
      refine lv_if_eq (tgt := 148) hx hb dX5_whyNot_141 (by decide) (fun c20 => ?_) (fun c20 => ?_)
      · rw [if_pos c20] at hf
        refine lv_iconst (v := 2) hx hb dX5_whyNot_148 (by decide) ?_
        obtain rfl := Option.some.inj hf
        exact hret rfl rfl rfl hP hD hS dX5_whyNot_149
      · rw [if_neg c20] at hf
        refine lv_iconst (v := 0) hx hb dX5_whyNot_144 (by decide) ?_
        refine lv_goto (tgt := 149) hx hb dX5_whyNot_145 (by decide) ?_
        obtain rfl := Option.some.inj hf
        exact hret rfl rfl rfl hP hD hS dX5_whyNot_149
    · rw [if_neg c18] at hf
      refine lv_iconst (v := 1) hx hb dX5_whyNot_131 (by decide) ?_
      refine lv_goto (tgt := 149) hx hb dX5_whyNot_132 (by decide) ?_
      obtain rfl := Option.some.inj hf
      exact hret rfl rfl rfl hP hD hS dX5_whyNot_149
  · rw [if_neg c1, if_neg c2, if_neg c3, if_neg c4] at hf
    refine lv_aload_n hx hb dX5_whyNot_150 rfl (lv_at hl 0 rfl) ?_
    refine va_get (D := D) (ci := 5) (v := .int vplace) (C := RX5) (T := TX5) (N := 33) hx hb hts inX5_whyNot_X5 hown hK hP 0 rfl rfl 18 (by decide) (hts (.fieldLink RX5 135 "WordScalesModel" "place" "I") (List.mem_of_getElem? (i := 3) rfl)) (fun _ h9 => h9) rfl dX5_whyNot_151 ?_
    refine lv_iconst (v := 2) hx hb dX5_whyNot_154 (by decide) ?_
    refine lv_icmp_eq (tgt := 166) hx hb dX5_whyNot_155 (by decide) (fun c21 => ?_) (fun c21 => ?_)
    · rw [if_pos c21] at hf
      refine lv_iconst (v := 0) hx hb dX5_whyNot_166 (by decide) ?_
      refine lv_goto (tgt := 171) hx hb dX5_whyNot_167 (by decide) ?_
      obtain rfl := Option.some.inj hf
      exact hret rfl rfl rfl hP hD hS dX5_whyNot_171
    · rw [if_neg c21] at hf
      refine lv_aload_n hx hb dX5_whyNot_158 rfl (lv_at hl 0 rfl) ?_
      refine va_get (D := D) (ci := 5) (v := .int vplace) (C := RX5) (T := TX5) (N := 33) hx hb hts inX5_whyNot_X5 hown hK hP 0 rfl rfl 18 (by decide) (hts (.fieldLink RX5 135 "WordScalesModel" "place" "I") (List.mem_of_getElem? (i := 3) rfl)) (fun _ h9 => h9) rfl dX5_whyNot_159 ?_
      refine lv_iconst (v := 4) hx hb dX5_whyNot_162 (by decide) ?_
      refine lv_icmp_ne (tgt := 170) hx hb dX5_whyNot_163 (by decide) (fun c22 => ?_) (fun c22 => ?_)
      · rw [if_neg c22] at hf
        refine lv_iconst (v := 5) hx hb dX5_whyNot_170 (by decide) ?_
        obtain rfl := Option.some.inj hf
        exact hret rfl rfl rfl hP hD hS dX5_whyNot_171
      · rw [if_pos c22] at hf
        refine lv_iconst (v := 0) hx hb dX5_whyNot_166 (by decide) ?_
        refine lv_goto (tgt := 171) hx hb dX5_whyNot_167 (by decide) ?_
        obtain rfl := Option.some.inj hf
        exact hret rfl rfl rfl hP hD hS dX5_whyNot_171
