def s_X5_asksAll_4 (vwishes : Nat → Int32) (vwishMany : Int32) (p0 : Int32) (x : Int32 × Int32) : Option ((Int32 × Int32) ⊕ (Int32 × Int32)) := if vwishMany ≤ x.2 then (some (.inr (x.1, x.2))) else (if x.1 = 0 then (some (.inl (0, (x.2 + 1)))) else (chk x.2 8 (if (p0 &&& (vwishes (x.2).toNatClampNeg)) = 0 then (some (.inl (0, (x.2 + 1)))) else (some (.inl (1, (x.2 + 1)))))))
def f_X5_asksAll (vwishes : Nat → Int32) (vwishMany : Int32) (p0 : Int32) : Option (Int32) := ob (wh (s_X5_asksAll_4 vwishes vwishMany p0) 5000 (1, 0)) (fun r1 => bchk r1.1 (some r1.1))
theorem inX5_asksAll_X5 : ∀ w ∈ wsX50, w ∈ wsX5_asksAll := fun w h => List.mem_cons_of_mem _ (List.mem_append_right _ h)
theorem yd_X5_asksAll : yX5_asksAll.cls ≠ "java/lang/invoke/MethodHandle" ∧ yX5_asksAll.cls ≠ "java/lang/invoke/VarHandle" ∧ (parseMethodDescriptor yX5_asksAll.desc).map (fun d => d.parameters.length) = some 1 := by decide +kernel
abbrev rmX5_asksAll : Room := { frames := 0, cells := 0, slots := 0, locals := 0 }
set_option maxHeartbeats 4000000 in
set_option maxRecDepth 100000 in
theorem k_X5_asksAll (l : Launch) (D : va_G) (K : Nat → ClassId) (q : Nat → Nat) (vweight : Nat → Int32) (vkind : Nat → Int32) (vrhymes : Nat → Int32) (vpurse : Nat → Int32) (vhas : Nat → Int32) (vwishes : Nat → Int32) (vwishMany : Int32) (vsightLeft : Nat → Int32) (vsightRight : Nat → Int32) (vsightHow : Nat → Int32) (vsights : Int32) (vpad : Nat → Int32) (vpadMany : Int32) (vact : Nat → Int32) (vwho : Nat → Int32) (vwhich : Nat → Int32) (vwhom : Nat → Int32) (vacts : Int32) (vplace : Int32) (vopenMany : Int32) (vended : Int32) (vspoken : Int32) (vheaviest : Int32) (vheaviestWeight : Int32) (vhad : Nat → Int32) (vbadAct : Int32) (vbadWhy : Int32) (vbrings : Nat → Int64) (vbringsThen : Nat → Int64) (vkept : Nat → Int32) (visKept : Nat → Int32) (vkeptAt : Int32) (visWriting : Int32) (p0 : Int32) (out : Int32) (hf : f_X5_asksAll vwishes vwishMany p0 = some out) : kI l D K .boolean yX5_asksAll wsX5_asksAll rmX5_asksAll [.ref (q 0), .int p0] (mdW K q vweight vkind vrhymes vpurse vhas vwishes vwishMany vsightLeft vsightRight vsightHow vsights vpad vpadMany vact vwho vwhich vwhom vacts vplace vopenMany vended vspoken vheaviest vheaviestWeight vhad vbadAct vbadWhy vbrings vbringsThen vkept visKept vkeptAt visWriting) out (mdW K q vweight vkind vrhymes vpurse vhas vwishes vwishMany vsightLeft vsightRight vsightHow vsights vpad vpadMany vact vwho vwhich vwhom vacts vplace vopenMany vended vspoken vheaviest vheaviestWeight vhad vbadAct vbadWhy vbrings vbringsThen vkept visKept vkeptAt visWriting) := by
  refine kI.of (cc := cX5_asksAll) (maxL := 4) (by decide) rfl (Nat.le_of_ble_eq_true rfl) ?_
  intro p e s m args below meth c A H0 Q ls hx hb hml hown hts hK hN hA hP hD hS hl hret
  have hown : s.vm.findClass RX5 = some m.cls := hown
  have hl : lv_has ls 4 [(0, .ref (q 0)), (1, .int p0)] := hl
  generalize hH : H0 = H at hP ⊢
  have hS : va_S A H0 H [] := by rw [← hH]; exact hS
  clear hH
  unfold f_X5_asksAll at hf
  refine lv_iconst (v := 1) hx hb dX5_asksAll_0 (by decide) ?_
  refine lv_istore_n (lv' := [(2, .int 1), (0, .ref (q 0)), (1, .int p0)]) hx hb dX5_asksAll_1 rfl hl (by decide) rfl (fun ls hl => ?_)
  refine lv_iconst (v := 0) hx hb dX5_asksAll_2 (by decide) ?_
  refine lv_istore_n (lv' := [(3, .int 0), (2, .int 1), (0, .ref (q 0)), (1, .int p0)]) hx hb dX5_asksAll_3 rfl hl (by decide) rfl (fun ls hl => ?_)
  obtain ⟨r1, hr1, hf⟩ := ob_el hf
  have post4 : ∀ (e4_l2 : Int32) (e4_l3 : Int32) (H : Heap) (locs : List Loc) (ls : Array Slot), (bchk e4_l2 (some e4_l2)) = some out → va_P D vwCl (mdW K q vweight vkind vrhymes vpurse vhas vwishes vwishMany vsightLeft vsightRight vsightHow vsights vpad vpadMany vact vwho vwhich vwhom vacts vplace vopenMany vended vspoken vheaviest vheaviestWeight vhad vbadAct vbadWhy vbrings vbringsThen vkept visKept vkeptAt visWriting) H → va_D A (mdW K q vweight vkind vrhymes vpurse vhas vwishes vwishMany vsightLeft vsightRight vsightHow vsights vpad vpadMany vact vwho vwhich vwhom vacts vplace vopenMany vended vspoken vheaviest vheaviestWeight vhad vbadAct vbadWhy vbrings vbringsThen vkept visKept vkeptAt visWriting) → va_S A H0 H locs → lv_has ls 4 [(3, .int e4_l3), (2, .int e4_l2), (0, .ref (q 0)), (1, .int p0)] → W p l e rmX5_asksAll s m args below meth c H locs 0 0 Q (F0 m 39 ls []) := by
    intro e4_l2 e4_l3 H locs ls hf hP hD hS hl
    refine lv_iload_n hx hb dX5_asksAll_39 rfl (lv_at hl 1 rfl) ?_
    obtain ⟨b2, hf⟩ := bchk_el hf
    obtain rfl := Option.some.inj hf
    exact hret rfl rfl b2 hP hD hS dX5_asksAll_40
  have lp4 : ∀ (fu : Nat) (x4_l2 : Int32) (x4_l3 : Int32) (H : Heap) (locs : List Loc) (ls : Array Slot), wh (s_X5_asksAll_4 vwishes vwishMany p0) fu (x4_l2, x4_l3) = some r1 → va_P D vwCl (mdW K q vweight vkind vrhymes vpurse vhas vwishes vwishMany vsightLeft vsightRight vsightHow vsights vpad vpadMany vact vwho vwhich vwhom vacts vplace vopenMany vended vspoken vheaviest vheaviestWeight vhad vbadAct vbadWhy vbrings vbringsThen vkept visKept vkeptAt visWriting) H → va_D A (mdW K q vweight vkind vrhymes vpurse vhas vwishes vwishMany vsightLeft vsightRight vsightHow vsights vpad vpadMany vact vwho vwhich vwhom vacts vplace vopenMany vended vspoken vheaviest vheaviestWeight vhad vbadAct vbadWhy vbrings vbringsThen vkept visKept vkeptAt visWriting) → va_S A H0 H locs → lv_has ls 4 [(3, .int x4_l3), (2, .int x4_l2), (0, .ref (q 0)), (1, .int p0)] → W p l e rmX5_asksAll s m args below meth c H locs 0 0 Q (F0 m 4 ls []) := by
    intro fu
    induction fu with
    | zero => intro x4_l2 x4_l3 H locs ls hw4; cases hw4
    | succ fu ih4 =>
      intro x4_l2 x4_l3 H locs ls hw4 hP hD hS hl
      obtain ⟨o4_, hs4, hw4⟩ := wh_el hw4
      unfold s_X5_asksAll_4 at hs4
      dsimp only at hs4
      refine lv_iload_n hx hb dX5_asksAll_4 rfl (lv_at hl 0 rfl) ?_
      refine lv_aload_n hx hb dX5_asksAll_5 rfl (lv_at hl 2 rfl) ?_
      refine va_get (D := D) (ci := 5) (v := .int vwishMany) (C := RX5) (T := TX5) (N := 33) hx hb hts inX5_asksAll_X5 hown hK hP 0 rfl rfl 6 (by decide) (hts (.fieldLink RX5 218 "WordScalesModel" "wishMany" "I") (List.mem_of_getElem? (i := 1) rfl)) (fun _ h9 => h9) rfl dX5_asksAll_6 ?_
      refine lv_icmp_ge (tgt := 39) hx hb dX5_asksAll_9 (by decide) (fun c3 => ?_) (fun c3 => ?_)
      · rw [if_pos c3] at hs4
        obtain rfl := Option.some.inj hs4
        have e9 := Option.some.inj hw4
        rw [← e9] at hf
        exact post4 _ _ _ _ _ hf hP hD hS (lv_sub hl [0, 1, 2, 3] rfl)
      · rw [if_neg c3] at hs4
        refine lv_iload_n hx hb dX5_asksAll_12 rfl (lv_at hl 1 rfl) ?_
        refine lv_if_eq (tgt := 31) hx hb dX5_asksAll_13 (by decide) (fun c4 => ?_) (fun c4 => ?_)
        · rw [if_pos c4] at hs4
          refine lv_iconst (v := 0) hx hb dX5_asksAll_31 (by decide) ?_
          refine lv_istore_n (lv' := [(2, .int 0), (3, .int x4_l3), (0, .ref (q 0)), (1, .int p0)]) hx hb dX5_asksAll_32 rfl hl (by decide) rfl (fun ls hl => ?_)
          refine lv_iinc (v := (x4_l3 + 1)) (lv' := [(3, .int (x4_l3 + 1)), (2, .int 0), (0, .ref (q 0)), (1, .int p0)]) hx hb dX5_asksAll_33 hl (k := 1) rfl (by rfl) (by decide) rfl (fun ls hl => ?_)
          refine lv_goto (tgt := 4) hx hb dX5_asksAll_36 (by decide) ?_
          obtain rfl := Option.some.inj hs4
          exact ih4 _ _ _ _ _ hw4 hP hD hS (lv_sub hl [0, 1, 2, 3] rfl)
        · rw [if_neg c4] at hs4
          refine lv_iload_n hx hb dX5_asksAll_16 rfl (lv_at hl 3 rfl) ?_
          refine lv_aload_n hx hb dX5_asksAll_17 rfl (lv_at hl 2 rfl) ?_
          refine va_get (D := D) (ci := 5) (v := .ref (q 6)) (C := RX5) (T := TX5) (N := 33) hx hb hts inX5_asksAll_X5 hown hK hP 0 rfl rfl 5 (by decide) (hts (.fieldLink RX5 25 "WordScalesModel" "wishes" "[I") (List.mem_of_getElem? (i := 2) rfl)) (fun _ h9 => h9) rfl dX5_asksAll_18 ?_
          refine lv_iload_n hx hb dX5_asksAll_21 rfl (lv_at hl 0 rfl) ?_
          obtain ⟨v5, hs4⟩ := chk_el hs4
          refine va_iald (D := D) (f := vwishes) hx hb hK hP 6 0 rfl rfl v5 dX5_asksAll_22 ?_
          refine lv_iand hx hb dX5_asksAll_23 ?_
          refine lv_if_eq (tgt := 31) hx hb dX5_asksAll_24 (by decide) (fun c6 => ?_) (fun c6 => ?_)
          · rw [if_pos c6] at hs4
            refine lv_iconst (v := 0) hx hb dX5_asksAll_31 (by decide) ?_
            refine lv_istore_n (lv' := [(2, .int 0), (3, .int x4_l3), (0, .ref (q 0)), (1, .int p0)]) hx hb dX5_asksAll_32 rfl hl (by decide) rfl (fun ls hl => ?_)
            refine lv_iinc (v := (x4_l3 + 1)) (lv' := [(3, .int (x4_l3 + 1)), (2, .int 0), (0, .ref (q 0)), (1, .int p0)]) hx hb dX5_asksAll_33 hl (k := 1) rfl (by rfl) (by decide) rfl (fun ls hl => ?_)
            refine lv_goto (tgt := 4) hx hb dX5_asksAll_36 (by decide) ?_
            obtain rfl := Option.some.inj hs4
            exact ih4 _ _ _ _ _ hw4 hP hD hS (lv_sub hl [0, 1, 2, 3] rfl)
          · rw [if_neg c6] at hs4
            refine lv_iconst (v := 1) hx hb dX5_asksAll_27 (by decide) ?_
            refine lv_goto (tgt := 32) hx hb dX5_asksAll_28 (by decide) ?_
            refine lv_istore_n (lv' := [(2, .int 1), (3, .int x4_l3), (0, .ref (q 0)), (1, .int p0)]) hx hb dX5_asksAll_32 rfl hl (by decide) rfl (fun ls hl => ?_)
            refine lv_iinc (v := (x4_l3 + 1)) (lv' := [(3, .int (x4_l3 + 1)), (2, .int 1), (0, .ref (q 0)), (1, .int p0)]) hx hb dX5_asksAll_33 hl (k := 1) rfl (by rfl) (by decide) rfl (fun ls hl => ?_)
            refine lv_goto (tgt := 4) hx hb dX5_asksAll_36 (by decide) ?_
            obtain rfl := Option.some.inj hs4
            exact ih4 _ _ _ _ _ hw4 hP hD hS (lv_sub hl [0, 1, 2, 3] rfl)
  exact lp4 5000 _ _ _ _ _ hr1 hP hD hS (lv_sub hl [0, 1, 2, 3] rfl)
def s_X5_nine_18 (vwishes : Nat → Int32) (vwishMany : Int32) (x : Int32 × Int32) : Option ((Int32 × Int32) ⊕ (Int32 × Int32)) := if 4095 < x.2 then (some (.inr (x.1, x.2))) else (if x.1 < 0 then (ob (f_X5_asksAll vwishes vwishMany x.2) (fun o10 => if o10 = 0 then (some (.inl (x.1, (x.2 + 1)))) else (some (.inl (x.2, (x.2 + 1)))))) else (ob (f_X5_ones x.2) (fun o12 => ob (f_X5_ones x.1) (fun o13 => if o13 ≤ o12 then (some (.inl (x.1, (x.2 + 1)))) else (ob (f_X5_asksAll vwishes vwishMany x.2) (fun o17 => if o17 = 0 then (some (.inl (x.1, (x.2 + 1)))) else (some (.inl (x.2, (x.2 + 1))))))))))
def f_X5_nine (vwishes : Nat → Int32) (vwishMany : Int32) (p0 : Int32) : Option (Int32) := bd (f_X5_in p0.toInt64 (0) (1)) (fun o1 => if o1 = 0 then (some (-2)) else (ob (wh (s_X5_nine_18 vwishes vwishMany) 5000 ((-6), 0)) (fun r3 => if r3.1 < 0 then (some r3.1) else (if p0 = 1 then (some r3.1) else (ob (f_X5_ones r3.1) (fun o6 => some o6))))))
theorem yd_X5_nine : yX5_nine.cls ≠ "java/lang/invoke/MethodHandle" ∧ yX5_nine.cls ≠ "java/lang/invoke/VarHandle" ∧ (parseMethodDescriptor yX5_nine.desc).map (fun d => d.parameters.length) = some 1 := by decide +kernel
abbrev rmX5_nine : Room := { frames := 1, cells := 0, slots := 0, locals := 25 }
set_option maxHeartbeats 4000000 in
set_option maxRecDepth 100000 in
theorem k_X5_nine (l : Launch) (D : va_G) (K : Nat → ClassId) (q : Nat → Nat) (vweight : Nat → Int32) (vkind : Nat → Int32) (vrhymes : Nat → Int32) (vpurse : Nat → Int32) (vhas : Nat → Int32) (vwishes : Nat → Int32) (vwishMany : Int32) (vsightLeft : Nat → Int32) (vsightRight : Nat → Int32) (vsightHow : Nat → Int32) (vsights : Int32) (vpad : Nat → Int32) (vpadMany : Int32) (vact : Nat → Int32) (vwho : Nat → Int32) (vwhich : Nat → Int32) (vwhom : Nat → Int32) (vacts : Int32) (vplace : Int32) (vopenMany : Int32) (vended : Int32) (vspoken : Int32) (vheaviest : Int32) (vheaviestWeight : Int32) (vhad : Nat → Int32) (vbadAct : Int32) (vbadWhy : Int32) (vbrings : Nat → Int64) (vbringsThen : Nat → Int64) (vkept : Nat → Int32) (visKept : Nat → Int32) (vkeptAt : Int32) (visWriting : Int32) (p0 : Int32) (out : Int32) (hf : f_X5_nine vwishes vwishMany p0 = some out) : kI l D K .int yX5_nine wsX5_nine rmX5_nine [.ref (q 0), .int p0] (mdW K q vweight vkind vrhymes vpurse vhas vwishes vwishMany vsightLeft vsightRight vsightHow vsights vpad vpadMany vact vwho vwhich vwhom vacts vplace vopenMany vended vspoken vheaviest vheaviestWeight vhad vbadAct vbadWhy vbrings vbringsThen vkept visKept vkeptAt visWriting) out (mdW K q vweight vkind vrhymes vpurse vhas vwishes vwishMany vsightLeft vsightRight vsightHow vsights vpad vpadMany vact vwho vwhich vwhom vacts vplace vopenMany vended vspoken vheaviest vheaviestWeight vhad vbadAct vbadWhy vbrings vbringsThen vkept visKept vkeptAt visWriting) := by
  refine kI.of (cc := cX5_nine) (maxL := 5) (by decide) rfl (Nat.le_of_ble_eq_true rfl) ?_
  intro p e s m args below meth c A H0 Q ls hx hb hml hown hts hK hN hA hP hD hS hl hret
  have hown : s.vm.findClass RX5 = some m.cls := hown
  have hl : lv_has ls 5 [(0, .ref (q 0)), (1, .int p0)] := hl
  generalize hH : H0 = H at hP ⊢
  have hS : va_S A H0 H [] := by rw [← hH]; exact hS
  clear hH
  unfold f_X5_nine at hf
  refine lv_iload_n hx hb dX5_nine_0 rfl (lv_at hl 1 rfl) ?_
  refine lv_i2l (v := p0.toInt64) hx hb dX5_nine_1 rfl ?_
  refine lv_lconst (v := 0) hx hb dX5_nine_2 (by decide) ?_
  refine lv_lconst (v := 1) hx hb dX5_nine_3 (by decide) ?_
  obtain ⟨o1, ho1, hf⟩ := bd_el hf
  refine kc0_i (D := D) (va_runS (As := [.long p0.toInt64, .long 0, .long 1]) (rest := []) ⟨hx, hb, hml, hown, hts⟩ ((k_X5_in l D K p0.toInt64 (0) (1) o1 ho1) H.size) (va_cwS 3 hts gX5_nine_X5_in rfl rfl rfl yd_X5_in ⟨Nat.le_of_ble_eq_true rfl, Nat.le_of_ble_eq_true rfl⟩) (kPreS va_P_nil (va_D_nil (A := fun _ => True)) hK hN) rfl rfl hl.1 rfl (lv_room (Nat.le_of_ble_eq_true rfl)) dX5_nine_4 ⟨Nat.le_of_ble_eq_true rfl, Nat.le_of_ble_eq_true rfl⟩) hP hS hA (fun hzo1 H locs hP hS => ?_)
  refine lv_if_ne (tgt := 13) hx hb dX5_nine_7 (by decide) (fun c2 => ?_) (fun c2 => ?_)
  · rw [if_neg c2] at hf
    refine lv_bipush (v := (-6)) hx hb dX5_nine_13 (by decide) ?_
    refine lv_istore_n (lv' := [(2, .int (-6)), (0, .ref (q 0)), (1, .int p0)]) hx hb dX5_nine_15 rfl hl (by decide) rfl (fun ls hl => ?_)
    refine lv_iconst (v := 0) hx hb dX5_nine_16 (by decide) ?_
    refine lv_istore_n (lv' := [(3, .int 0), (2, .int (-6)), (0, .ref (q 0)), (1, .int p0)]) hx hb dX5_nine_17 rfl hl (by decide) rfl (fun ls hl => ?_)
    obtain ⟨r3, hr3, hf⟩ := ob_el hf
    have post18 : ∀ (e18_l2 : Int32) (e18_l3 : Int32) (H : Heap) (locs : List Loc) (ls : Array Slot), (if e18_l2 < 0 then (some e18_l2) else (if p0 = 1 then (some e18_l2) else (ob (f_X5_ones e18_l2) (fun o6 => some o6)))) = some out → va_P D vwCl (mdW K q vweight vkind vrhymes vpurse vhas vwishes vwishMany vsightLeft vsightRight vsightHow vsights vpad vpadMany vact vwho vwhich vwhom vacts vplace vopenMany vended vspoken vheaviest vheaviestWeight vhad vbadAct vbadWhy vbrings vbringsThen vkept visKept vkeptAt visWriting) H → va_D A (mdW K q vweight vkind vrhymes vpurse vhas vwishes vwishMany vsightLeft vsightRight vsightHow vsights vpad vpadMany vact vwho vwhich vwhom vacts vplace vopenMany vended vspoken vheaviest vheaviestWeight vhad vbadAct vbadWhy vbrings vbringsThen vkept visKept vkeptAt visWriting) → va_S A H0 H locs → lv_has ls 5 [(3, .int e18_l3), (2, .int e18_l2), (0, .ref (q 0)), (1, .int p0)] → W p l e rmX5_nine s m args below meth c H locs 0 0 Q (F0 m 72 ls []) := by
      intro e18_l2 e18_l3 H locs ls hf hP hD hS hl
      refine lv_iload_n hx hb dX5_nine_72 rfl (lv_at hl 1 rfl) ?_
      refine lv_if_lt (tgt := 81) hx hb dX5_nine_73 (by decide) (fun c4 => ?_) (fun c4 => ?_)
      · rw [if_pos c4] at hf
        refine lv_iload_n hx hb dX5_nine_81 rfl (lv_at hl 1 rfl) ?_
        refine lv_goto (tgt := 89) hx hb dX5_nine_82 (by decide) ?_
        obtain rfl := Option.some.inj hf
        exact hret rfl rfl rfl hP hD hS dX5_nine_89
      · rw [if_neg c4] at hf
        refine lv_iload_n hx hb dX5_nine_76 rfl (lv_at hl 3 rfl) ?_
        refine lv_iconst (v := 1) hx hb dX5_nine_77 (by decide) ?_
        refine lv_icmp_ne (tgt := 85) hx hb dX5_nine_78 (by decide) (fun c5 => ?_) (fun c5 => ?_)
        · rw [if_neg c5] at hf
          refine lv_iload_n hx hb dX5_nine_85 rfl (lv_at hl 1 rfl) ?_
          obtain ⟨o6, ho6, hf⟩ := ob_el hf
          refine kc0_i (D := D) (va_runS (As := [.int e18_l2]) (rest := []) ⟨hx, hb, hml, hown, hts⟩ ((k_X5_ones l D K e18_l2 o6 ho6) H.size) (va_cwS 1 hts gX5_nine_X5_ones rfl rfl rfl yd_X5_ones ⟨Nat.le_of_ble_eq_true rfl, Nat.le_of_ble_eq_true rfl⟩) (kPreS va_P_nil (va_D_nil (A := fun _ => True)) hK hN) rfl rfl hl.1 rfl (lv_room (Nat.le_of_ble_eq_true rfl)) dX5_nine_86 ⟨Nat.le_of_ble_eq_true rfl, Nat.le_of_ble_eq_true rfl⟩) hP hS hA (fun hzo6 H locs hP hS => ?_)
          obtain rfl := Option.some.inj hf
          exact hret rfl rfl rfl hP hD hS dX5_nine_89
        · rw [if_pos c5] at hf
          refine lv_iload_n hx hb dX5_nine_81 rfl (lv_at hl 1 rfl) ?_
          refine lv_goto (tgt := 89) hx hb dX5_nine_82 (by decide) ?_
          obtain rfl := Option.some.inj hf
          exact hret rfl rfl rfl hP hD hS dX5_nine_89
    have lp18 : ∀ (fu : Nat) (x18_l2 : Int32) (x18_l3 : Int32) (H : Heap) (locs : List Loc) (ls : Array Slot), wh (s_X5_nine_18 vwishes vwishMany) fu (x18_l2, x18_l3) = some r3 → va_P D vwCl (mdW K q vweight vkind vrhymes vpurse vhas vwishes vwishMany vsightLeft vsightRight vsightHow vsights vpad vpadMany vact vwho vwhich vwhom vacts vplace vopenMany vended vspoken vheaviest vheaviestWeight vhad vbadAct vbadWhy vbrings vbringsThen vkept visKept vkeptAt visWriting) H → va_D A (mdW K q vweight vkind vrhymes vpurse vhas vwishes vwishMany vsightLeft vsightRight vsightHow vsights vpad vpadMany vact vwho vwhich vwhom vacts vplace vopenMany vended vspoken vheaviest vheaviestWeight vhad vbadAct vbadWhy vbrings vbringsThen vkept visKept vkeptAt visWriting) → va_S A H0 H locs → lv_has ls 5 [(3, .int x18_l3), (2, .int x18_l2), (0, .ref (q 0)), (1, .int p0)] → W p l e rmX5_nine s m args below meth c H locs 0 0 Q (F0 m 18 ls []) := by
      intro fu
      induction fu with
      | zero => intro x18_l2 x18_l3 H locs ls hw18; cases hw18
      | succ fu ih18 =>
        intro x18_l2 x18_l3 H locs ls hw18 hP hD hS hl
        obtain ⟨o18_, hs18, hw18⟩ := wh_el hw18
        unfold s_X5_nine_18 at hs18
        dsimp only at hs18
        refine lv_iload_n hx hb dX5_nine_18 rfl (lv_at hl 0 rfl) ?_
        refine lv_sipush (v := 4095) hx hb dX5_nine_19 (by decide) ?_
        refine lv_icmp_gt (tgt := 72) hx hb dX5_nine_22 (by decide) (fun c7 => ?_) (fun c7 => ?_)
        · rw [if_pos c7] at hs18
          obtain rfl := Option.some.inj hs18
          have e9 := Option.some.inj hw18
          rw [← e9] at hf
          exact post18 _ _ _ _ _ hf hP hD hS (lv_sub hl [0, 1, 2, 3] rfl)
        · rw [if_neg c7] at hs18
          refine lv_iload_n hx hb dX5_nine_25 rfl (lv_at hl 1 rfl) ?_
          refine lv_if_lt (tgt := 40) hx hb dX5_nine_26 (by decide) (fun c8 => ?_) (fun c8 => ?_)
          · rw [if_pos c8] at hs18
            refine lv_iconst (v := 1) hx hb dX5_nine_40 (by decide) ?_
            refine lv_goto (tgt := 45) hx hb dX5_nine_41 (by decide) ?_
            refine lv_istore (lv' := [(4, .int 1), (3, .int x18_l3), (2, .int x18_l2), (0, .ref (q 0)), (1, .int p0)]) hx hb dX5_nine_45 hl (by decide) rfl (fun ls hl => ?_)
            refine lv_iload hx hb dX5_nine_47 (lv_at hl 0 rfl) ?_
            refine lv_if_eq (tgt := 64) hx hb dX5_nine_49 (by decide) (fun c9 => ?_) (fun c9 => ?_)
            · exact absurd c9 (by decide : ¬ (1 : Int32) = 0)
            · skip
              refine lv_aload_n hx hb dX5_nine_52 rfl (lv_at hl 3 rfl) ?_
              refine lv_iload_n hx hb dX5_nine_53 rfl (lv_at hl 1 rfl) ?_
              obtain ⟨o10, ho10, hs18⟩ := ob_el hs18
              refine kcw_i (D := D) (va_runV (As := [.int x18_l3]) (rest := []) ⟨hx, hb, hml, hown, hts⟩ ((k_X5_asksAll l D K q vweight vkind vrhymes vpurse vhas vwishes vwishMany vsightLeft vsightRight vsightHow vsights vpad vpadMany vact vwho vwhich vwhom vacts vplace vopenMany vended vspoken vheaviest vheaviestWeight vhad vbadAct vbadWhy vbrings vbringsThen vkept visKept vkeptAt visWriting x18_l3 o10 ho10) H.size) (cwV 1 hts gX5_nine_X5_asksAll rfl rfl rfl ⟨rfl, yd_X5_asksAll⟩ ⟨Nat.le_of_ble_eq_true rfl, Nat.le_of_ble_eq_true rfl⟩) (kPreV (ci := 5) (q0 := 0) hP rfl rfl hP hD hK hN) rfl rfl hl.1 rfl (lv_room (Nat.le_of_ble_eq_true rfl)) dX5_nine_54 ⟨Nat.le_of_ble_eq_true rfl, Nat.le_of_ble_eq_true rfl⟩) hD hS hA (fun hzo10 H locs hP hD hS => ?_)
              have hP : va_P D vwCl (mdW K q vweight vkind vrhymes vpurse vhas vwishes vwishMany vsightLeft vsightRight vsightHow vsights vpad vpadMany vact vwho vwhich vwhom vacts vplace vopenMany vended vspoken vheaviest vheaviestWeight vhad vbadAct vbadWhy vbrings vbringsThen vkept visKept vkeptAt visWriting) H := hP
              have hD : va_D A (mdW K q vweight vkind vrhymes vpurse vhas vwishes vwishMany vsightLeft vsightRight vsightHow vsights vpad vpadMany vact vwho vwhich vwhom vacts vplace vopenMany vended vspoken vheaviest vheaviestWeight vhad vbadAct vbadWhy vbrings vbringsThen vkept visKept vkeptAt visWriting) := hD
              refine lv_if_eq (tgt := 64) hx hb dX5_nine_57 (by decide) (fun c11 => ?_) (fun c11 => ?_)
              · rw [if_pos c11] at hs18
                refine lv_iload_n hx hb dX5_nine_64 rfl (lv_at hl 2 rfl) ?_
                refine lv_istore_n (lv' := [(2, .int x18_l2), (4, .int 1), (3, .int x18_l3), (0, .ref (q 0)), (1, .int p0)]) hx hb dX5_nine_65 rfl hl (by decide) rfl (fun ls hl => ?_)
                refine lv_iinc (v := (x18_l3 + 1)) (lv' := [(3, .int (x18_l3 + 1)), (2, .int x18_l2), (4, .int 1), (0, .ref (q 0)), (1, .int p0)]) hx hb dX5_nine_66 hl (k := 2) rfl (by rfl) (by decide) rfl (fun ls hl => ?_)
                refine lv_goto (tgt := 18) hx hb dX5_nine_69 (by decide) ?_
                obtain rfl := Option.some.inj hs18
                exact ih18 _ _ _ _ _ hw18 hP hD hS (lv_sub hl [0, 1, 3, 4] rfl)
              · rw [if_neg c11] at hs18
                refine lv_iload_n hx hb dX5_nine_60 rfl (lv_at hl 1 rfl) ?_
                refine lv_goto (tgt := 65) hx hb dX5_nine_61 (by decide) ?_
                refine lv_istore_n (lv' := [(2, .int x18_l3), (4, .int 1), (3, .int x18_l3), (0, .ref (q 0)), (1, .int p0)]) hx hb dX5_nine_65 rfl hl (by decide) rfl (fun ls hl => ?_)
                refine lv_iinc (v := (x18_l3 + 1)) (lv' := [(3, .int (x18_l3 + 1)), (2, .int x18_l3), (4, .int 1), (0, .ref (q 0)), (1, .int p0)]) hx hb dX5_nine_66 hl (k := 2) rfl (by rfl) (by decide) rfl (fun ls hl => ?_)
                refine lv_goto (tgt := 18) hx hb dX5_nine_69 (by decide) ?_
                obtain rfl := Option.some.inj hs18
                exact ih18 _ _ _ _ _ hw18 hP hD hS (lv_sub hl [0, 1, 3, 4] rfl)
          · rw [if_neg c8] at hs18
            refine lv_iload_n hx hb dX5_nine_29 rfl (lv_at hl 0 rfl) ?_
            obtain ⟨o12, ho12, hs18⟩ := ob_el hs18
            refine kc0_i (D := D) (va_runS (As := [.int x18_l3]) (rest := []) ⟨hx, hb, hml, hown, hts⟩ ((k_X5_ones l D K x18_l3 o12 ho12) H.size) (va_cwS 1 hts gX5_nine_X5_ones rfl rfl rfl yd_X5_ones ⟨Nat.le_of_ble_eq_true rfl, Nat.le_of_ble_eq_true rfl⟩) (kPreS va_P_nil (va_D_nil (A := fun _ => True)) hK hN) rfl rfl hl.1 rfl (lv_room (Nat.le_of_ble_eq_true rfl)) dX5_nine_30 ⟨Nat.le_of_ble_eq_true rfl, Nat.le_of_ble_eq_true rfl⟩) hP hS hA (fun hzo12 H locs hP hS => ?_)
            refine lv_iload_n hx hb dX5_nine_33 rfl (lv_at hl 1 rfl) ?_
            obtain ⟨o13, ho13, hs18⟩ := ob_el hs18
            refine kc0_i (D := D) (va_runS (As := [.int x18_l2]) (rest := [.int o12]) ⟨hx, hb, hml, hown, hts⟩ ((k_X5_ones l D K x18_l2 o13 ho13) H.size) (va_cwS 1 hts gX5_nine_X5_ones rfl rfl rfl yd_X5_ones ⟨Nat.le_of_ble_eq_true rfl, Nat.le_of_ble_eq_true rfl⟩) (kPreS va_P_nil (va_D_nil (A := fun _ => True)) hK hN) rfl rfl hl.1 rfl (lv_room (Nat.le_of_ble_eq_true rfl)) dX5_nine_34 ⟨Nat.le_of_ble_eq_true rfl, Nat.le_of_ble_eq_true rfl⟩) hP hS hA (fun hzo13 H locs hP hS => ?_)
            refine lv_icmp_ge (tgt := 44) hx hb dX5_nine_37 (by decide) (fun c14 => ?_) (fun c14 => ?_)
            · rw [if_pos c14] at hs18
              refine lv_iconst (v := 0) hx hb dX5_nine_44 (by decide) ?_
              refine lv_istore (lv' := [(4, .int 0), (3, .int x18_l3), (2, .int x18_l2), (0, .ref (q 0)), (1, .int p0)]) hx hb dX5_nine_45 hl (by decide) rfl (fun ls hl => ?_)
              refine lv_iload hx hb dX5_nine_47 (lv_at hl 0 rfl) ?_
              refine lv_if_eq (tgt := 64) hx hb dX5_nine_49 (by decide) (fun c15 => ?_) (fun c15 => ?_)
              · skip
                refine lv_iload_n hx hb dX5_nine_64 rfl (lv_at hl 2 rfl) ?_
                refine lv_istore_n (lv' := [(2, .int x18_l2), (4, .int 0), (3, .int x18_l3), (0, .ref (q 0)), (1, .int p0)]) hx hb dX5_nine_65 rfl hl (by decide) rfl (fun ls hl => ?_)
                refine lv_iinc (v := (x18_l3 + 1)) (lv' := [(3, .int (x18_l3 + 1)), (2, .int x18_l2), (4, .int 0), (0, .ref (q 0)), (1, .int p0)]) hx hb dX5_nine_66 hl (k := 2) rfl (by rfl) (by decide) rfl (fun ls hl => ?_)
                refine lv_goto (tgt := 18) hx hb dX5_nine_69 (by decide) ?_
                obtain rfl := Option.some.inj hs18
                exact ih18 _ _ _ _ _ hw18 hP hD hS (lv_sub hl [0, 1, 3, 4] rfl)
              · exact absurd (by decide : (0 : Int32) = 0) c15
            · rw [if_neg c14] at hs18
              refine lv_iconst (v := 1) hx hb dX5_nine_40 (by decide) ?_
              refine lv_goto (tgt := 45) hx hb dX5_nine_41 (by decide) ?_
              refine lv_istore (lv' := [(4, .int 1), (3, .int x18_l3), (2, .int x18_l2), (0, .ref (q 0)), (1, .int p0)]) hx hb dX5_nine_45 hl (by decide) rfl (fun ls hl => ?_)
              refine lv_iload hx hb dX5_nine_47 (lv_at hl 0 rfl) ?_
              refine lv_if_eq (tgt := 64) hx hb dX5_nine_49 (by decide) (fun c16 => ?_) (fun c16 => ?_)
              · exact absurd c16 (by decide : ¬ (1 : Int32) = 0)
              · skip
                refine lv_aload_n hx hb dX5_nine_52 rfl (lv_at hl 3 rfl) ?_
                refine lv_iload_n hx hb dX5_nine_53 rfl (lv_at hl 1 rfl) ?_
                obtain ⟨o17, ho17, hs18⟩ := ob_el hs18
                refine kcw_i (D := D) (va_runV (As := [.int x18_l3]) (rest := []) ⟨hx, hb, hml, hown, hts⟩ ((k_X5_asksAll l D K q vweight vkind vrhymes vpurse vhas vwishes vwishMany vsightLeft vsightRight vsightHow vsights vpad vpadMany vact vwho vwhich vwhom vacts vplace vopenMany vended vspoken vheaviest vheaviestWeight vhad vbadAct vbadWhy vbrings vbringsThen vkept visKept vkeptAt visWriting x18_l3 o17 ho17) H.size) (cwV 1 hts gX5_nine_X5_asksAll rfl rfl rfl ⟨rfl, yd_X5_asksAll⟩ ⟨Nat.le_of_ble_eq_true rfl, Nat.le_of_ble_eq_true rfl⟩) (kPreV (ci := 5) (q0 := 0) hP rfl rfl hP hD hK hN) rfl rfl hl.1 rfl (lv_room (Nat.le_of_ble_eq_true rfl)) dX5_nine_54 ⟨Nat.le_of_ble_eq_true rfl, Nat.le_of_ble_eq_true rfl⟩) hD hS hA (fun hzo17 H locs hP hD hS => ?_)
                have hP : va_P D vwCl (mdW K q vweight vkind vrhymes vpurse vhas vwishes vwishMany vsightLeft vsightRight vsightHow vsights vpad vpadMany vact vwho vwhich vwhom vacts vplace vopenMany vended vspoken vheaviest vheaviestWeight vhad vbadAct vbadWhy vbrings vbringsThen vkept visKept vkeptAt visWriting) H := hP
                have hD : va_D A (mdW K q vweight vkind vrhymes vpurse vhas vwishes vwishMany vsightLeft vsightRight vsightHow vsights vpad vpadMany vact vwho vwhich vwhom vacts vplace vopenMany vended vspoken vheaviest vheaviestWeight vhad vbadAct vbadWhy vbrings vbringsThen vkept visKept vkeptAt visWriting) := hD
                refine lv_if_eq (tgt := 64) hx hb dX5_nine_57 (by decide) (fun c18 => ?_) (fun c18 => ?_)
                · rw [if_pos c18] at hs18
                  refine lv_iload_n hx hb dX5_nine_64 rfl (lv_at hl 2 rfl) ?_
                  refine lv_istore_n (lv' := [(2, .int x18_l2), (4, .int 1), (3, .int x18_l3), (0, .ref (q 0)), (1, .int p0)]) hx hb dX5_nine_65 rfl hl (by decide) rfl (fun ls hl => ?_)
                  refine lv_iinc (v := (x18_l3 + 1)) (lv' := [(3, .int (x18_l3 + 1)), (2, .int x18_l2), (4, .int 1), (0, .ref (q 0)), (1, .int p0)]) hx hb dX5_nine_66 hl (k := 2) rfl (by rfl) (by decide) rfl (fun ls hl => ?_)
                  refine lv_goto (tgt := 18) hx hb dX5_nine_69 (by decide) ?_
                  obtain rfl := Option.some.inj hs18
                  exact ih18 _ _ _ _ _ hw18 hP hD hS (lv_sub hl [0, 1, 3, 4] rfl)
                · rw [if_neg c18] at hs18
                  refine lv_iload_n hx hb dX5_nine_60 rfl (lv_at hl 1 rfl) ?_
                  refine lv_goto (tgt := 65) hx hb dX5_nine_61 (by decide) ?_
                  refine lv_istore_n (lv' := [(2, .int x18_l3), (4, .int 1), (3, .int x18_l3), (0, .ref (q 0)), (1, .int p0)]) hx hb dX5_nine_65 rfl hl (by decide) rfl (fun ls hl => ?_)
                  refine lv_iinc (v := (x18_l3 + 1)) (lv' := [(3, .int (x18_l3 + 1)), (2, .int x18_l3), (4, .int 1), (0, .ref (q 0)), (1, .int p0)]) hx hb dX5_nine_66 hl (k := 2) rfl (by rfl) (by decide) rfl (fun ls hl => ?_)
                  refine lv_goto (tgt := 18) hx hb dX5_nine_69 (by decide) ?_
                  obtain rfl := Option.some.inj hs18
                  exact ih18 _ _ _ _ _ hw18 hP hD hS (lv_sub hl [0, 1, 3, 4] rfl)
    exact lp18 5000 _ _ _ _ _ hr3 hP hD hS (lv_sub hl [0, 1, 2, 3] rfl)
  · rw [if_pos c2] at hf
    refine lv_bipush (v := (-2)) hx hb dX5_nine_10 (by decide) ?_
    obtain rfl := Option.some.inj hf
    exact hret rfl rfl rfl hP hD hS dX5_nine_12
def f_X5_seen (vsightLeft : Nat → Int32) (vsightRight : Nat → Int32) (vsightHow : Nat → Int32) (vsights : Int32) (p0 : Int32) (p1 : Int32) (p2 : Int32) : Option (Int32 × (Nat → Int32) × (Nat → Int32) × (Nat → Int32) × Int32) := bd (f_X5_in p0.toInt64 (0) (4095)) (fun o1 => if o1 = 0 then (some ((-2), vsightLeft, vsightRight, vsightHow, vsights)) else (bd (f_X5_in p1.toInt64 (0) (4095)) (fun o4 => if o4 = 0 then (some ((-2), vsightLeft, vsightRight, vsightHow, vsights)) else (bd (f_X5_in p2.toInt64 (0) (2)) (fun o7 => if o7 = 0 then (some ((-2), vsightLeft, vsightRight, vsightHow, vsights)) else (ob (f_X5_ones p0) (fun o11 => ob (f_X5_ones p1) (fun o12 => if o11 = o12 then (if (p0 &&& p1) = 0 then (if vsights = 6 then (some ((-4), vsightLeft, vsightRight, vsightHow, vsights)) else (chk vsights 6 (some ((vsights + 1), (upd vsightLeft (vsights).toNatClampNeg p0), (upd vsightRight (vsights).toNatClampNeg p1), (upd vsightHow (vsights).toNatClampNeg p2), (vsights + 1))))) else (some ((-2), vsightLeft, vsightRight, vsightHow, vsights))) else (some ((-2), vsightLeft, vsightRight, vsightHow, vsights))))))))))
theorem inX5_seen_X5 : ∀ w ∈ wsX50, w ∈ wsX5_seen := fun w h => List.mem_cons_of_mem _ (List.mem_append_right _ h)
theorem yd_X5_seen : yX5_seen.cls ≠ "java/lang/invoke/MethodHandle" ∧ yX5_seen.cls ≠ "java/lang/invoke/VarHandle" ∧ (parseMethodDescriptor yX5_seen.desc).map (fun d => d.parameters.length) = some 3 := by decide +kernel
abbrev rmX5_seen : Room := { frames := 1, cells := 0, slots := 0, locals := 25 }
set_option maxHeartbeats 4000000 in
set_option maxRecDepth 100000 in
theorem k_X5_seen (l : Launch) (D : va_G) (K : Nat → ClassId) (q : Nat → Nat) (vweight : Nat → Int32) (vkind : Nat → Int32) (vrhymes : Nat → Int32) (vpurse : Nat → Int32) (vhas : Nat → Int32) (vwishes : Nat → Int32) (vwishMany : Int32) (vsightLeft : Nat → Int32) (vsightRight : Nat → Int32) (vsightHow : Nat → Int32) (vsights : Int32) (vpad : Nat → Int32) (vpadMany : Int32) (vact : Nat → Int32) (vwho : Nat → Int32) (vwhich : Nat → Int32) (vwhom : Nat → Int32) (vacts : Int32) (vplace : Int32) (vopenMany : Int32) (vended : Int32) (vspoken : Int32) (vheaviest : Int32) (vheaviestWeight : Int32) (vhad : Nat → Int32) (vbadAct : Int32) (vbadWhy : Int32) (vbrings : Nat → Int64) (vbringsThen : Nat → Int64) (vkept : Nat → Int32) (visKept : Nat → Int32) (vkeptAt : Int32) (visWriting : Int32) (p0 : Int32) (p1 : Int32) (p2 : Int32) (out : Int32 × (Nat → Int32) × (Nat → Int32) × (Nat → Int32) × Int32) (hf : f_X5_seen vsightLeft vsightRight vsightHow vsights p0 p1 p2 = some out) : kI l D K .int yX5_seen wsX5_seen rmX5_seen [.ref (q 0), .int p0, .int p1, .int p2] (mdW K q vweight vkind vrhymes vpurse vhas vwishes vwishMany vsightLeft vsightRight vsightHow vsights vpad vpadMany vact vwho vwhich vwhom vacts vplace vopenMany vended vspoken vheaviest vheaviestWeight vhad vbadAct vbadWhy vbrings vbringsThen vkept visKept vkeptAt visWriting) out.1 (mdW K q vweight vkind vrhymes vpurse vhas vwishes vwishMany out.2.1 out.2.2.1 out.2.2.2.1 out.2.2.2.2 vpad vpadMany vact vwho vwhich vwhom vacts vplace vopenMany vended vspoken vheaviest vheaviestWeight vhad vbadAct vbadWhy vbrings vbringsThen vkept visKept vkeptAt visWriting) := by
  refine kI.of (cc := cX5_seen) (maxL := 5) (by decide) rfl (Nat.le_of_ble_eq_true rfl) ?_
  intro p e s m args below meth c A H0 Q ls hx hb hml hown hts hK hN hA hP hD hS hl hret
  have hown : s.vm.findClass RX5 = some m.cls := hown
  have hl : lv_has ls 5 [(0, .ref (q 0)), (1, .int p0), (2, .int p1), (3, .int p2)] := hl
  generalize hH : H0 = H at hP ⊢
  have hS : va_S A H0 H [] := by rw [← hH]; exact hS
  clear hH
  unfold f_X5_seen at hf
  refine lv_iload_n hx hb dX5_seen_0 rfl (lv_at hl 1 rfl) ?_
  refine lv_i2l (v := p0.toInt64) hx hb dX5_seen_1 rfl ?_
  refine lv_lconst (v := 0) hx hb dX5_seen_2 (by decide) ?_
  refine lv_ldc2 hx hb hown (hts (.constantLong RX5 100 (4095)) (List.mem_of_getElem? (i := 1) rfl)) dX5_seen_3 ?_
  obtain ⟨o1, ho1, hf⟩ := bd_el hf
  refine kc0_i (D := D) (va_runS (As := [.long p0.toInt64, .long 0, .long 4095]) (rest := []) ⟨hx, hb, hml, hown, hts⟩ ((k_X5_in l D K p0.toInt64 (0) (4095) o1 ho1) H.size) (va_cwS 3 hts gX5_seen_X5_in rfl rfl rfl yd_X5_in ⟨Nat.le_of_ble_eq_true rfl, Nat.le_of_ble_eq_true rfl⟩) (kPreS va_P_nil (va_D_nil (A := fun _ => True)) hK hN) rfl rfl hl.1 rfl (lv_room (Nat.le_of_ble_eq_true rfl)) dX5_seen_6 ⟨Nat.le_of_ble_eq_true rfl, Nat.le_of_ble_eq_true rfl⟩) hP hS hA (fun hzo1 H locs hP hS => ?_)
  refine lv_if_eq (tgt := 40) hx hb dX5_seen_9 (by decide) (fun c2 => ?_) (fun c2 => ?_)
  · rw [if_pos c2] at hf
    refine lv_iconst (v := 0) hx hb dX5_seen_40 (by decide) ?_
    refine lv_istore (lv' := [(4, .int 0), (0, .ref (q 0)), (1, .int p0), (2, .int p1), (3, .int p2)]) hx hb dX5_seen_41 hl (by decide) rfl (fun ls hl => ?_)
    refine lv_iload hx hb dX5_seen_43 (lv_at hl 0 rfl) ?_
    refine lv_if_eq (tgt := 65) hx hb dX5_seen_45 (by decide) (fun c3 => ?_) (fun c3 => ?_)
    · skip
      refine lv_bipush (v := (-2)) hx hb dX5_seen_65 (by decide) ?_
      obtain rfl := Option.some.inj hf
      exact hret rfl rfl rfl hP hD hS dX5_seen_67
    · exact absurd (by decide : (0 : Int32) = 0) c3
  · rw [if_neg c2] at hf
    refine lv_iload_n hx hb dX5_seen_12 rfl (lv_at hl 2 rfl) ?_
    refine lv_i2l (v := p1.toInt64) hx hb dX5_seen_13 rfl ?_
    refine lv_lconst (v := 0) hx hb dX5_seen_14 (by decide) ?_
    refine lv_ldc2 hx hb hown (hts (.constantLong RX5 100 (4095)) (List.mem_of_getElem? (i := 1) rfl)) dX5_seen_15 ?_
    obtain ⟨o4, ho4, hf⟩ := bd_el hf
    refine kc0_i (D := D) (va_runS (As := [.long p1.toInt64, .long 0, .long 4095]) (rest := []) ⟨hx, hb, hml, hown, hts⟩ ((k_X5_in l D K p1.toInt64 (0) (4095) o4 ho4) H.size) (va_cwS 3 hts gX5_seen_X5_in rfl rfl rfl yd_X5_in ⟨Nat.le_of_ble_eq_true rfl, Nat.le_of_ble_eq_true rfl⟩) (kPreS va_P_nil (va_D_nil (A := fun _ => True)) hK hN) rfl rfl hl.1 rfl (lv_room (Nat.le_of_ble_eq_true rfl)) dX5_seen_18 ⟨Nat.le_of_ble_eq_true rfl, Nat.le_of_ble_eq_true rfl⟩) hP hS hA (fun hzo4 H locs hP hS => ?_)
    refine lv_if_eq (tgt := 40) hx hb dX5_seen_21 (by decide) (fun c5 => ?_) (fun c5 => ?_)
    · rw [if_pos c5] at hf
      refine lv_iconst (v := 0) hx hb dX5_seen_40 (by decide) ?_
      refine lv_istore (lv' := [(4, .int 0), (0, .ref (q 0)), (1, .int p0), (2, .int p1), (3, .int p2)]) hx hb dX5_seen_41 hl (by decide) rfl (fun ls hl => ?_)
      refine lv_iload hx hb dX5_seen_43 (lv_at hl 0 rfl) ?_
      refine lv_if_eq (tgt := 65) hx hb dX5_seen_45 (by decide) (fun c6 => ?_) (fun c6 => ?_)
      · skip
        refine lv_bipush (v := (-2)) hx hb dX5_seen_65 (by decide) ?_
        obtain rfl := Option.some.inj hf
        exact hret rfl rfl rfl hP hD hS dX5_seen_67
      · exact absurd (by decide : (0 : Int32) = 0) c6
    · rw [if_neg c5] at hf
      refine lv_iload_n hx hb dX5_seen_24 rfl (lv_at hl 3 rfl) ?_
      refine lv_i2l (v := p2.toInt64) hx hb dX5_seen_25 rfl ?_
      refine lv_lconst (v := 0) hx hb dX5_seen_26 (by decide) ?_
      refine lv_ldc2 hx hb hown (hts (.constantLong RX5 83 (2)) (List.mem_of_getElem? (i := 2) rfl)) dX5_seen_27 ?_
      obtain ⟨o7, ho7, hf⟩ := bd_el hf
      refine kc0_i (D := D) (va_runS (As := [.long p2.toInt64, .long 0, .long 2]) (rest := []) ⟨hx, hb, hml, hown, hts⟩ ((k_X5_in l D K p2.toInt64 (0) (2) o7 ho7) H.size) (va_cwS 3 hts gX5_seen_X5_in rfl rfl rfl yd_X5_in ⟨Nat.le_of_ble_eq_true rfl, Nat.le_of_ble_eq_true rfl⟩) (kPreS va_P_nil (va_D_nil (A := fun _ => True)) hK hN) rfl rfl hl.1 rfl (lv_room (Nat.le_of_ble_eq_true rfl)) dX5_seen_30 ⟨Nat.le_of_ble_eq_true rfl, Nat.le_of_ble_eq_true rfl⟩) hP hS hA (fun hzo7 H locs hP hS => ?_)
      refine lv_if_eq (tgt := 40) hx hb dX5_seen_33 (by decide) (fun c8 => ?_) (fun c8 => ?_)
      · rw [if_pos c8] at hf
        refine lv_iconst (v := 0) hx hb dX5_seen_40 (by decide) ?_
        refine lv_istore (lv' := [(4, .int 0), (0, .ref (q 0)), (1, .int p0), (2, .int p1), (3, .int p2)]) hx hb dX5_seen_41 hl (by decide) rfl (fun ls hl => ?_)
        refine lv_iload hx hb dX5_seen_43 (lv_at hl 0 rfl) ?_
        refine lv_if_eq (tgt := 65) hx hb dX5_seen_45 (by decide) (fun c9 => ?_) (fun c9 => ?_)
        · skip
          refine lv_bipush (v := (-2)) hx hb dX5_seen_65 (by decide) ?_
          obtain rfl := Option.some.inj hf
          exact hret rfl rfl rfl hP hD hS dX5_seen_67
        · exact absurd (by decide : (0 : Int32) = 0) c9
      · rw [if_neg c8] at hf
        refine lv_iconst (v := 1) hx hb dX5_seen_36 (by decide) ?_
        refine lv_goto (tgt := 41) hx hb dX5_seen_37 (by decide) ?_
        refine lv_istore (lv' := [(4, .int 1), (0, .ref (q 0)), (1, .int p0), (2, .int p1), (3, .int p2)]) hx hb dX5_seen_41 hl (by decide) rfl (fun ls hl => ?_)
        refine lv_iload hx hb dX5_seen_43 (lv_at hl 0 rfl) ?_
        refine lv_if_eq (tgt := 65) hx hb dX5_seen_45 (by decide) (fun c10 => ?_) (fun c10 => ?_)
        · exact absurd c10 (by decide : ¬ (1 : Int32) = 0)
        · skip
          refine lv_iload_n hx hb dX5_seen_48 rfl (lv_at hl 2 rfl) ?_
          obtain ⟨o11, ho11, hf⟩ := ob_el hf
          refine kc0_i (D := D) (va_runS (As := [.int p0]) (rest := []) ⟨hx, hb, hml, hown, hts⟩ ((k_X5_ones l D K p0 o11 ho11) H.size) (va_cwS 1 hts gX5_seen_X5_ones rfl rfl rfl yd_X5_ones ⟨Nat.le_of_ble_eq_true rfl, Nat.le_of_ble_eq_true rfl⟩) (kPreS va_P_nil (va_D_nil (A := fun _ => True)) hK hN) rfl rfl hl.1 rfl (lv_room (Nat.le_of_ble_eq_true rfl)) dX5_seen_49 ⟨Nat.le_of_ble_eq_true rfl, Nat.le_of_ble_eq_true rfl⟩) hP hS hA (fun hzo11 H locs hP hS => ?_)
          refine lv_iload_n hx hb dX5_seen_52 rfl (lv_at hl 3 rfl) ?_
          obtain ⟨o12, ho12, hf⟩ := ob_el hf
          refine kc0_i (D := D) (va_runS (As := [.int p1]) (rest := [.int o11]) ⟨hx, hb, hml, hown, hts⟩ ((k_X5_ones l D K p1 o12 ho12) H.size) (va_cwS 1 hts gX5_seen_X5_ones rfl rfl rfl yd_X5_ones ⟨Nat.le_of_ble_eq_true rfl, Nat.le_of_ble_eq_true rfl⟩) (kPreS va_P_nil (va_D_nil (A := fun _ => True)) hK hN) rfl rfl hl.1 rfl (lv_room (Nat.le_of_ble_eq_true rfl)) dX5_seen_53 ⟨Nat.le_of_ble_eq_true rfl, Nat.le_of_ble_eq_true rfl⟩) hP hS hA (fun hzo12 H locs hP hS => ?_)
          refine lv_icmp_ne (tgt := 65) hx hb dX5_seen_56 (by decide) (fun c13 => ?_) (fun c13 => ?_)
          · rw [if_neg c13] at hf
            refine lv_bipush (v := (-2)) hx hb dX5_seen_65 (by decide) ?_
            obtain rfl := Option.some.inj hf
            exact hret rfl rfl rfl hP hD hS dX5_seen_67
          · rw [if_pos c13] at hf
            refine lv_iload_n hx hb dX5_seen_59 rfl (lv_at hl 2 rfl) ?_
            refine lv_iload_n hx hb dX5_seen_60 rfl (lv_at hl 3 rfl) ?_
            refine lv_iand hx hb dX5_seen_61 ?_
            refine lv_if_eq (tgt := 68) hx hb dX5_seen_62 (by decide) (fun c14 => ?_) (fun c14 => ?_)
            · rw [if_pos c14] at hf
              refine lv_aload_n hx hb dX5_seen_68 rfl (lv_at hl 1 rfl) ?_
              refine va_get (D := D) (ci := 5) (v := .int vsights) (C := RX5) (T := TX5) (N := 33) hx hb hts inX5_seen_X5 hown hK hP 0 rfl rfl 10 (by decide) (hts (.fieldLink RX5 224 "WordScalesModel" "sights" "I") (List.mem_of_getElem? (i := 3) rfl)) (fun _ h9 => h9) rfl dX5_seen_69 ?_
              refine lv_bipush (v := 6) hx hb dX5_seen_72 (by decide) ?_
              refine lv_icmp_ne (tgt := 80) hx hb dX5_seen_74 (by decide) (fun c15 => ?_) (fun c15 => ?_)
              · rw [if_neg c15] at hf
                refine lv_aload_n hx hb dX5_seen_80 rfl (lv_at hl 1 rfl) ?_
                refine va_get (D := D) (ci := 5) (v := .ref (q 7)) (C := RX5) (T := TX5) (N := 33) hx hb hts inX5_seen_X5 hown hK hP 0 rfl rfl 7 (by decide) (hts (.fieldLink RX5 28 "WordScalesModel" "sightLeft" "[I") (List.mem_of_getElem? (i := 4) rfl)) (fun _ h9 => h9) rfl dX5_seen_81 ?_
                refine lv_aload_n hx hb dX5_seen_84 rfl (lv_at hl 1 rfl) ?_
                refine va_get (D := D) (ci := 5) (v := .int vsights) (C := RX5) (T := TX5) (N := 33) hx hb hts inX5_seen_X5 hown hK hP 0 rfl rfl 10 (by decide) (hts (.fieldLink RX5 224 "WordScalesModel" "sights" "I") (List.mem_of_getElem? (i := 3) rfl)) (fun _ h9 => h9) rfl dX5_seen_85 ?_
                refine lv_iload_n hx hb dX5_seen_88 rfl (lv_at hl 2 rfl) ?_
                obtain ⟨v16, hf⟩ := chk_el hf
                refine va_iast (D := D) (f := vsightLeft) hx hb hK hP hD hS 7 0 rfl rfl v16 dX5_seen_89 (fun H locs hP hD hS => ?_)
                have hP : va_P D vwCl (mdW K q vweight vkind vrhymes vpurse vhas vwishes vwishMany (upd vsightLeft (vsights).toNatClampNeg p0) vsightRight vsightHow vsights vpad vpadMany vact vwho vwhich vwhom vacts vplace vopenMany vended vspoken vheaviest vheaviestWeight vhad vbadAct vbadWhy vbrings vbringsThen vkept visKept vkeptAt visWriting) H := hP
                have hD : va_D A (mdW K q vweight vkind vrhymes vpurse vhas vwishes vwishMany (upd vsightLeft (vsights).toNatClampNeg p0) vsightRight vsightHow vsights vpad vpadMany vact vwho vwhich vwhom vacts vplace vopenMany vended vspoken vheaviest vheaviestWeight vhad vbadAct vbadWhy vbrings vbringsThen vkept visKept vkeptAt visWriting) := hD
                refine lv_aload_n hx hb dX5_seen_90 rfl (lv_at hl 1 rfl) ?_
                refine va_get (D := D) (ci := 5) (v := .ref (q 8)) (C := RX5) (T := TX5) (N := 33) hx hb hts inX5_seen_X5 hown hK hP 0 rfl rfl 8 (by decide) (hts (.fieldLink RX5 31 "WordScalesModel" "sightRight" "[I") (List.mem_of_getElem? (i := 5) rfl)) (fun _ h9 => h9) rfl dX5_seen_91 ?_
                refine lv_aload_n hx hb dX5_seen_94 rfl (lv_at hl 1 rfl) ?_
                refine va_get (D := D) (ci := 5) (v := .int vsights) (C := RX5) (T := TX5) (N := 33) hx hb hts inX5_seen_X5 hown hK hP 0 rfl rfl 10 (by decide) (hts (.fieldLink RX5 224 "WordScalesModel" "sights" "I") (List.mem_of_getElem? (i := 3) rfl)) (fun _ h9 => h9) rfl dX5_seen_95 ?_
                refine lv_iload_n hx hb dX5_seen_98 rfl (lv_at hl 3 rfl) ?_
                refine va_iast (D := D) (f := vsightRight) hx hb hK hP hD hS 8 0 rfl rfl v16 dX5_seen_99 (fun H locs hP hD hS => ?_)
                have hP : va_P D vwCl (mdW K q vweight vkind vrhymes vpurse vhas vwishes vwishMany (upd vsightLeft (vsights).toNatClampNeg p0) (upd vsightRight (vsights).toNatClampNeg p1) vsightHow vsights vpad vpadMany vact vwho vwhich vwhom vacts vplace vopenMany vended vspoken vheaviest vheaviestWeight vhad vbadAct vbadWhy vbrings vbringsThen vkept visKept vkeptAt visWriting) H := hP
                have hD : va_D A (mdW K q vweight vkind vrhymes vpurse vhas vwishes vwishMany (upd vsightLeft (vsights).toNatClampNeg p0) (upd vsightRight (vsights).toNatClampNeg p1) vsightHow vsights vpad vpadMany vact vwho vwhich vwhom vacts vplace vopenMany vended vspoken vheaviest vheaviestWeight vhad vbadAct vbadWhy vbrings vbringsThen vkept visKept vkeptAt visWriting) := hD
                refine lv_aload_n hx hb dX5_seen_100 rfl (lv_at hl 1 rfl) ?_
                refine va_get (D := D) (ci := 5) (v := .ref (q 9)) (C := RX5) (T := TX5) (N := 33) hx hb hts inX5_seen_X5 hown hK hP 0 rfl rfl 9 (by decide) (hts (.fieldLink RX5 34 "WordScalesModel" "sightHow" "[I") (List.mem_of_getElem? (i := 6) rfl)) (fun _ h9 => h9) rfl dX5_seen_101 ?_
                refine lv_aload_n hx hb dX5_seen_104 rfl (lv_at hl 1 rfl) ?_
                refine va_get (D := D) (ci := 5) (v := .int vsights) (C := RX5) (T := TX5) (N := 33) hx hb hts inX5_seen_X5 hown hK hP 0 rfl rfl 10 (by decide) (hts (.fieldLink RX5 224 "WordScalesModel" "sights" "I") (List.mem_of_getElem? (i := 3) rfl)) (fun _ h9 => h9) rfl dX5_seen_105 ?_
                refine lv_iload_n hx hb dX5_seen_108 rfl (lv_at hl 4 rfl) ?_
                refine va_iast (D := D) (f := vsightHow) hx hb hK hP hD hS 9 0 rfl rfl v16 dX5_seen_109 (fun H locs hP hD hS => ?_)
                have hP : va_P D vwCl (mdW K q vweight vkind vrhymes vpurse vhas vwishes vwishMany (upd vsightLeft (vsights).toNatClampNeg p0) (upd vsightRight (vsights).toNatClampNeg p1) (upd vsightHow (vsights).toNatClampNeg p2) vsights vpad vpadMany vact vwho vwhich vwhom vacts vplace vopenMany vended vspoken vheaviest vheaviestWeight vhad vbadAct vbadWhy vbrings vbringsThen vkept visKept vkeptAt visWriting) H := hP
                have hD : va_D A (mdW K q vweight vkind vrhymes vpurse vhas vwishes vwishMany (upd vsightLeft (vsights).toNatClampNeg p0) (upd vsightRight (vsights).toNatClampNeg p1) (upd vsightHow (vsights).toNatClampNeg p2) vsights vpad vpadMany vact vwho vwhich vwhom vacts vplace vopenMany vended vspoken vheaviest vheaviestWeight vhad vbadAct vbadWhy vbrings vbringsThen vkept visKept vkeptAt visWriting) := hD
                refine lv_aload_n hx hb dX5_seen_110 rfl (lv_at hl 1 rfl) ?_
                refine lv_dup hx hb dX5_seen_111 rfl ?_
                refine va_get (D := D) (ci := 5) (v := .int vsights) (C := RX5) (T := TX5) (N := 33) hx hb hts inX5_seen_X5 hown hK hP 0 rfl rfl 10 (by decide) (hts (.fieldLink RX5 224 "WordScalesModel" "sights" "I") (List.mem_of_getElem? (i := 3) rfl)) (fun _ h9 => h9) rfl dX5_seen_112 ?_
                refine lv_iconst (v := 1) hx hb dX5_seen_115 (by decide) ?_
                refine lv_iadd hx hb dX5_seen_116 ?_
                refine va_put (D := D) (ci := 5) (v := .int (vsights + 1)) (ty := .int) (C := RX5) (T := TX5) (N := 33) hx hb hts inX5_seen_X5 tyX5 tyX5_ok nmX5 hown hK hP hD hS 0 rfl rfl 10 (by decide) (hts (.fieldLink RX5 224 "WordScalesModel" "sights" "I") (List.mem_of_getElem? (i := 3) rfl)) (fun _ h9 => h9) rfl (tyX5_ok 10 (by decide)) rfl rfl (Nat.le_of_ble_eq_true rfl) dX5_seen_117 (fun H locs hP hD hS => ?_)
                have hP : va_P D vwCl (mdW K q vweight vkind vrhymes vpurse vhas vwishes vwishMany (upd vsightLeft (vsights).toNatClampNeg p0) (upd vsightRight (vsights).toNatClampNeg p1) (upd vsightHow (vsights).toNatClampNeg p2) (vsights + 1) vpad vpadMany vact vwho vwhich vwhom vacts vplace vopenMany vended vspoken vheaviest vheaviestWeight vhad vbadAct vbadWhy vbrings vbringsThen vkept visKept vkeptAt visWriting) H := hP
                have hD : va_D A (mdW K q vweight vkind vrhymes vpurse vhas vwishes vwishMany (upd vsightLeft (vsights).toNatClampNeg p0) (upd vsightRight (vsights).toNatClampNeg p1) (upd vsightHow (vsights).toNatClampNeg p2) (vsights + 1) vpad vpadMany vact vwho vwhich vwhom vacts vplace vopenMany vended vspoken vheaviest vheaviestWeight vhad vbadAct vbadWhy vbrings vbringsThen vkept visKept vkeptAt visWriting) := hD
                refine lv_aload_n hx hb dX5_seen_120 rfl (lv_at hl 1 rfl) ?_
                refine va_get (D := D) (ci := 5) (v := .int (vsights + 1)) (C := RX5) (T := TX5) (N := 33) hx hb hts inX5_seen_X5 hown hK hP 0 rfl rfl 10 (by decide) (hts (.fieldLink RX5 224 "WordScalesModel" "sights" "I") (List.mem_of_getElem? (i := 3) rfl)) (fun _ h9 => h9) rfl dX5_seen_121 ?_
                obtain rfl := Option.some.inj hf
                exact hret rfl rfl rfl hP hD hS dX5_seen_124
              · rw [if_pos c15] at hf
                refine lv_bipush (v := (-4)) hx hb dX5_seen_77 (by decide) ?_
                obtain rfl := Option.some.inj hf
                exact hret rfl rfl rfl hP hD hS dX5_seen_79
            · rw [if_neg c14] at hf
              refine lv_bipush (v := (-2)) hx hb dX5_seen_65 (by decide) ?_
              obtain rfl := Option.some.inj hf
              exact hret rfl rfl rfl hP hD hS dX5_seen_67
def f_X5_forget (vsights : Int32) : Int32 × Int32 := (vsights, 0)
theorem inX5_forget_X5 : ∀ w ∈ wsX50, w ∈ wsX5_forget := fun w h => List.mem_cons_of_mem _ (List.mem_append_right _ h)
theorem yd_X5_forget : yX5_forget.cls ≠ "java/lang/invoke/MethodHandle" ∧ yX5_forget.cls ≠ "java/lang/invoke/VarHandle" ∧ (parseMethodDescriptor yX5_forget.desc).map (fun d => d.parameters.length) = some 0 := by decide +kernel
abbrev rmX5_forget : Room := { frames := 0, cells := 0, slots := 0, locals := 0 }
set_option maxHeartbeats 4000000 in
set_option maxRecDepth 100000 in
theorem k_X5_forget (l : Launch) (D : va_G) (K : Nat → ClassId) (q : Nat → Nat) (vweight : Nat → Int32) (vkind : Nat → Int32) (vrhymes : Nat → Int32) (vpurse : Nat → Int32) (vhas : Nat → Int32) (vwishes : Nat → Int32) (vwishMany : Int32) (vsightLeft : Nat → Int32) (vsightRight : Nat → Int32) (vsightHow : Nat → Int32) (vsights : Int32) (vpad : Nat → Int32) (vpadMany : Int32) (vact : Nat → Int32) (vwho : Nat → Int32) (vwhich : Nat → Int32) (vwhom : Nat → Int32) (vacts : Int32) (vplace : Int32) (vopenMany : Int32) (vended : Int32) (vspoken : Int32) (vheaviest : Int32) (vheaviestWeight : Int32) (vhad : Nat → Int32) (vbadAct : Int32) (vbadWhy : Int32) (vbrings : Nat → Int64) (vbringsThen : Nat → Int64) (vkept : Nat → Int32) (visKept : Nat → Int32) (vkeptAt : Int32) (visWriting : Int32) (out : Int32 × Int32) (hf : f_X5_forget vsights = out) : kI l D K .int yX5_forget wsX5_forget rmX5_forget [.ref (q 0)] (mdW K q vweight vkind vrhymes vpurse vhas vwishes vwishMany vsightLeft vsightRight vsightHow vsights vpad vpadMany vact vwho vwhich vwhom vacts vplace vopenMany vended vspoken vheaviest vheaviestWeight vhad vbadAct vbadWhy vbrings vbringsThen vkept visKept vkeptAt visWriting) out.1 (mdW K q vweight vkind vrhymes vpurse vhas vwishes vwishMany vsightLeft vsightRight vsightHow out.2 vpad vpadMany vact vwho vwhich vwhom vacts vplace vopenMany vended vspoken vheaviest vheaviestWeight vhad vbadAct vbadWhy vbrings vbringsThen vkept visKept vkeptAt visWriting) := by
  refine kI.of (cc := cX5_forget) (maxL := 2) (by decide) rfl (Nat.le_of_ble_eq_true rfl) ?_
  intro p e s m args below meth c A H0 Q ls hx hb hml hown hts hK hN hA hP hD hS hl hret
  have hown : s.vm.findClass RX5 = some m.cls := hown
  have hl : lv_has ls 2 [(0, .ref (q 0))] := hl
  generalize hH : H0 = H at hP ⊢
  have hS : va_S A H0 H [] := by rw [← hH]; exact hS
  clear hH
  unfold f_X5_forget at hf
  refine lv_aload_n hx hb dX5_forget_0 rfl (lv_at hl 0 rfl) ?_
  refine va_get (D := D) (ci := 5) (v := .int vsights) (C := RX5) (T := TX5) (N := 33) hx hb hts inX5_forget_X5 hown hK hP 0 rfl rfl 10 (by decide) (hts (.fieldLink RX5 224 "WordScalesModel" "sights" "I") (List.mem_of_getElem? (i := 1) rfl)) (fun _ h9 => h9) rfl dX5_forget_1 ?_
  refine lv_istore_n (lv' := [(1, .int vsights), (0, .ref (q 0))]) hx hb dX5_forget_4 rfl hl (by decide) rfl (fun ls hl => ?_)
  refine lv_aload_n hx hb dX5_forget_5 rfl (lv_at hl 1 rfl) ?_
  refine lv_iconst (v := 0) hx hb dX5_forget_6 (by decide) ?_
  refine va_put (D := D) (ci := 5) (v := .int 0) (ty := .int) (C := RX5) (T := TX5) (N := 33) hx hb hts inX5_forget_X5 tyX5 tyX5_ok nmX5 hown hK hP hD hS 0 rfl rfl 10 (by decide) (hts (.fieldLink RX5 224 "WordScalesModel" "sights" "I") (List.mem_of_getElem? (i := 1) rfl)) (fun _ h9 => h9) rfl (tyX5_ok 10 (by decide)) rfl rfl (Nat.le_of_ble_eq_true rfl) dX5_forget_7 (fun H locs hP hD hS => ?_)
  have hP : va_P D vwCl (mdW K q vweight vkind vrhymes vpurse vhas vwishes vwishMany vsightLeft vsightRight vsightHow 0 vpad vpadMany vact vwho vwhich vwhom vacts vplace vopenMany vended vspoken vheaviest vheaviestWeight vhad vbadAct vbadWhy vbrings vbringsThen vkept visKept vkeptAt visWriting) H := hP
  have hD : va_D A (mdW K q vweight vkind vrhymes vpurse vhas vwishes vwishMany vsightLeft vsightRight vsightHow 0 vpad vpadMany vact vwho vwhich vwhom vacts vplace vopenMany vended vspoken vheaviest vheaviestWeight vhad vbadAct vbadWhy vbrings vbringsThen vkept visKept vkeptAt visWriting) := hD
  refine lv_iload_n hx hb dX5_forget_10 rfl (lv_at hl 0 rfl) ?_
  subst hf
  exact hret rfl rfl rfl hP hD hS dX5_forget_11
def s_X5_hollow_6 (vsightLeft : Nat → Int32) (vsightRight : Nat → Int32) (vsightHow : Nat → Int32) (vsights : Int32) (x : Int32 × Int32) : Option ((Int32 × Int32) ⊕ (Int32 × Int32)) := if vsights ≤ x.2 then (some (.inr (x.1, x.2))) else (chk x.2 6 (if (vsightHow (x.2).toNatClampNeg) = 0 then (some (.inl ((x.1 &&& (vsightLeft (x.2).toNatClampNeg)), (x.2 + 1)))) else (if (vsightHow (x.2).toNatClampNeg) = 1 then (some (.inl ((x.1 &&& (vsightRight (x.2).toNatClampNeg)), (x.2 + 1)))) else (some (.inl ((x.1 &&& (4095 &&& (((vsightLeft (x.2).toNatClampNeg) ||| (vsightRight (x.2).toNatClampNeg)) ^^^ (-1)))), (x.2 + 1)))))))
def f_X5_hollow (vsightLeft : Nat → Int32) (vsightRight : Nat → Int32) (vsightHow : Nat → Int32) (vsights : Int32) : Option (Int32) := ob (wh (s_X5_hollow_6 vsightLeft vsightRight vsightHow vsights) 5000 (4095, 0)) (fun r1 => some r1.1)
theorem inX5_hollow_X5 : ∀ w ∈ wsX50, w ∈ wsX5_hollow := fun w h => List.mem_cons_of_mem _ (List.mem_append_right _ h)
theorem yd_X5_hollow : yX5_hollow.cls ≠ "java/lang/invoke/MethodHandle" ∧ yX5_hollow.cls ≠ "java/lang/invoke/VarHandle" ∧ (parseMethodDescriptor yX5_hollow.desc).map (fun d => d.parameters.length) = some 0 := by decide +kernel
abbrev rmX5_hollow : Room := { frames := 0, cells := 0, slots := 0, locals := 0 }
set_option maxHeartbeats 4000000 in
set_option maxRecDepth 100000 in
theorem k_X5_hollow (l : Launch) (D : va_G) (K : Nat → ClassId) (q : Nat → Nat) (vweight : Nat → Int32) (vkind : Nat → Int32) (vrhymes : Nat → Int32) (vpurse : Nat → Int32) (vhas : Nat → Int32) (vwishes : Nat → Int32) (vwishMany : Int32) (vsightLeft : Nat → Int32) (vsightRight : Nat → Int32) (vsightHow : Nat → Int32) (vsights : Int32) (vpad : Nat → Int32) (vpadMany : Int32) (vact : Nat → Int32) (vwho : Nat → Int32) (vwhich : Nat → Int32) (vwhom : Nat → Int32) (vacts : Int32) (vplace : Int32) (vopenMany : Int32) (vended : Int32) (vspoken : Int32) (vheaviest : Int32) (vheaviestWeight : Int32) (vhad : Nat → Int32) (vbadAct : Int32) (vbadWhy : Int32) (vbrings : Nat → Int64) (vbringsThen : Nat → Int64) (vkept : Nat → Int32) (visKept : Nat → Int32) (vkeptAt : Int32) (visWriting : Int32) (out : Int32) (hf : f_X5_hollow vsightLeft vsightRight vsightHow vsights = some out) : kI l D K .int yX5_hollow wsX5_hollow rmX5_hollow [.ref (q 0)] (mdW K q vweight vkind vrhymes vpurse vhas vwishes vwishMany vsightLeft vsightRight vsightHow vsights vpad vpadMany vact vwho vwhich vwhom vacts vplace vopenMany vended vspoken vheaviest vheaviestWeight vhad vbadAct vbadWhy vbrings vbringsThen vkept visKept vkeptAt visWriting) out (mdW K q vweight vkind vrhymes vpurse vhas vwishes vwishMany vsightLeft vsightRight vsightHow vsights vpad vpadMany vact vwho vwhich vwhom vacts vplace vopenMany vended vspoken vheaviest vheaviestWeight vhad vbadAct vbadWhy vbrings vbringsThen vkept visKept vkeptAt visWriting) := by
  refine kI.of (cc := cX5_hollow) (maxL := 4) (by decide) rfl (Nat.le_of_ble_eq_true rfl) ?_
  intro p e s m args below meth c A H0 Q ls hx hb hml hown hts hK hN hA hP hD hS hl hret
  have hown : s.vm.findClass RX5 = some m.cls := hown
  have hl : lv_has ls 4 [(0, .ref (q 0))] := hl
  generalize hH : H0 = H at hP ⊢
  have hS : va_S A H0 H [] := by rw [← hH]; exact hS
  clear hH
  unfold f_X5_hollow at hf
  refine lv_sipush (v := 4095) hx hb dX5_hollow_0 (by decide) ?_
  refine lv_istore_n (lv' := [(1, .int 4095), (0, .ref (q 0))]) hx hb dX5_hollow_3 rfl hl (by decide) rfl (fun ls hl => ?_)
  refine lv_iconst (v := 0) hx hb dX5_hollow_4 (by decide) ?_
  refine lv_istore_n (lv' := [(2, .int 0), (1, .int 4095), (0, .ref (q 0))]) hx hb dX5_hollow_5 rfl hl (by decide) rfl (fun ls hl => ?_)
  obtain ⟨r1, hr1, hf⟩ := ob_el hf
  have post6 : ∀ (e6_l1 : Int32) (e6_l2 : Int32) (H : Heap) (locs : List Loc) (ls : Array Slot), (some e6_l1) = some out → va_P D vwCl (mdW K q vweight vkind vrhymes vpurse vhas vwishes vwishMany vsightLeft vsightRight vsightHow vsights vpad vpadMany vact vwho vwhich vwhom vacts vplace vopenMany vended vspoken vheaviest vheaviestWeight vhad vbadAct vbadWhy vbrings vbringsThen vkept visKept vkeptAt visWriting) H → va_D A (mdW K q vweight vkind vrhymes vpurse vhas vwishes vwishMany vsightLeft vsightRight vsightHow vsights vpad vpadMany vact vwho vwhich vwhom vacts vplace vopenMany vended vspoken vheaviest vheaviestWeight vhad vbadAct vbadWhy vbrings vbringsThen vkept visKept vkeptAt visWriting) → va_S A H0 H locs → lv_has ls 4 [(2, .int e6_l2), (1, .int e6_l1), (0, .ref (q 0))] → W p l e rmX5_hollow s m args below meth c H locs 0 0 Q (F0 m 81 ls []) := by
    intro e6_l1 e6_l2 H locs ls hf hP hD hS hl
    refine lv_iload_n hx hb dX5_hollow_81 rfl (lv_at hl 1 rfl) ?_
    obtain rfl := Option.some.inj hf
    exact hret rfl rfl rfl hP hD hS dX5_hollow_82
  have lp6 : ∀ (fu : Nat) (x6_l1 : Int32) (x6_l2 : Int32) (H : Heap) (locs : List Loc) (ls : Array Slot), wh (s_X5_hollow_6 vsightLeft vsightRight vsightHow vsights) fu (x6_l1, x6_l2) = some r1 → va_P D vwCl (mdW K q vweight vkind vrhymes vpurse vhas vwishes vwishMany vsightLeft vsightRight vsightHow vsights vpad vpadMany vact vwho vwhich vwhom vacts vplace vopenMany vended vspoken vheaviest vheaviestWeight vhad vbadAct vbadWhy vbrings vbringsThen vkept visKept vkeptAt visWriting) H → va_D A (mdW K q vweight vkind vrhymes vpurse vhas vwishes vwishMany vsightLeft vsightRight vsightHow vsights vpad vpadMany vact vwho vwhich vwhom vacts vplace vopenMany vended vspoken vheaviest vheaviestWeight vhad vbadAct vbadWhy vbrings vbringsThen vkept visKept vkeptAt visWriting) → va_S A H0 H locs → lv_has ls 4 [(2, .int x6_l2), (1, .int x6_l1), (0, .ref (q 0))] → W p l e rmX5_hollow s m args below meth c H locs 0 0 Q (F0 m 6 ls []) := by
    intro fu
    induction fu with
    | zero => intro x6_l1 x6_l2 H locs ls hw6; cases hw6
    | succ fu ih6 =>
      intro x6_l1 x6_l2 H locs ls hw6 hP hD hS hl
      obtain ⟨o6_, hs6, hw6⟩ := wh_el hw6
      unfold s_X5_hollow_6 at hs6
      dsimp only at hs6
      refine lv_iload_n hx hb dX5_hollow_6 rfl (lv_at hl 0 rfl) ?_
      refine lv_aload_n hx hb dX5_hollow_7 rfl (lv_at hl 2 rfl) ?_
      refine va_get (D := D) (ci := 5) (v := .int vsights) (C := RX5) (T := TX5) (N := 33) hx hb hts inX5_hollow_X5 hown hK hP 0 rfl rfl 10 (by decide) (hts (.fieldLink RX5 224 "WordScalesModel" "sights" "I") (List.mem_of_getElem? (i := 1) rfl)) (fun _ h9 => h9) rfl dX5_hollow_8 ?_
      refine lv_icmp_ge (tgt := 81) hx hb dX5_hollow_11 (by decide) (fun c2 => ?_) (fun c2 => ?_)
      · rw [if_pos c2] at hs6
        obtain rfl := Option.some.inj hs6
        have e9 := Option.some.inj hw6
        rw [← e9] at hf
        exact post6 _ _ _ _ _ hf hP hD hS (lv_sub hl [0, 1, 2] rfl)
      · rw [if_neg c2] at hs6
        refine lv_aload_n hx hb dX5_hollow_14 rfl (lv_at hl 2 rfl) ?_
        refine va_get (D := D) (ci := 5) (v := .ref (q 7)) (C := RX5) (T := TX5) (N := 33) hx hb hts inX5_hollow_X5 hown hK hP 0 rfl rfl 7 (by decide) (hts (.fieldLink RX5 28 "WordScalesModel" "sightLeft" "[I") (List.mem_of_getElem? (i := 2) rfl)) (fun _ h9 => h9) rfl dX5_hollow_15 ?_
        refine lv_iload_n hx hb dX5_hollow_18 rfl (lv_at hl 0 rfl) ?_
        obtain ⟨v3, hs6⟩ := chk_el hs6
        refine va_iald (D := D) (f := vsightLeft) hx hb hK hP 7 0 rfl rfl v3 dX5_hollow_19 ?_
        refine lv_aload_n hx hb dX5_hollow_20 rfl (lv_at hl 2 rfl) ?_
        refine va_get (D := D) (ci := 5) (v := .ref (q 8)) (C := RX5) (T := TX5) (N := 33) hx hb hts inX5_hollow_X5 hown hK hP 0 rfl rfl 8 (by decide) (hts (.fieldLink RX5 31 "WordScalesModel" "sightRight" "[I") (List.mem_of_getElem? (i := 3) rfl)) (fun _ h9 => h9) rfl dX5_hollow_21 ?_
        refine lv_iload_n hx hb dX5_hollow_24 rfl (lv_at hl 0 rfl) ?_
        refine va_iald (D := D) (f := vsightRight) hx hb hK hP 8 0 rfl rfl v3 dX5_hollow_25 ?_
        refine lv_ior hx hb dX5_hollow_26 ?_
        refine lv_istore_n (lv' := [(3, .int ((vsightLeft (x6_l2).toNatClampNeg) ||| (vsightRight (x6_l2).toNatClampNeg))), (2, .int x6_l2), (1, .int x6_l1), (0, .ref (q 0))]) hx hb dX5_hollow_27 rfl hl (by decide) rfl (fun ls hl => ?_)
        refine lv_iload_n hx hb dX5_hollow_28 rfl (lv_at hl 2 rfl) ?_
        refine lv_aload_n hx hb dX5_hollow_29 rfl (lv_at hl 3 rfl) ?_
        refine va_get (D := D) (ci := 5) (v := .ref (q 9)) (C := RX5) (T := TX5) (N := 33) hx hb hts inX5_hollow_X5 hown hK hP 0 rfl rfl 9 (by decide) (hts (.fieldLink RX5 34 "WordScalesModel" "sightHow" "[I") (List.mem_of_getElem? (i := 4) rfl)) (fun _ h9 => h9) rfl dX5_hollow_30 ?_
        refine lv_iload_n hx hb dX5_hollow_33 rfl (lv_at hl 1 rfl) ?_
        refine va_iald (D := D) (f := vsightHow) hx hb hK hP 9 0 rfl rfl v3 dX5_hollow_34 ?_
        refine lv_if_ne (tgt := 47) hx hb dX5_hollow_35 (by decide) (fun c4 => ?_) (fun c4 => ?_)
        · rw [if_neg c4] at hs6
          refine lv_aload_n hx hb dX5_hollow_47 rfl (lv_at hl 3 rfl) ?_
          refine va_get (D := D) (ci := 5) (v := .ref (q 9)) (C := RX5) (T := TX5) (N := 33) hx hb hts inX5_hollow_X5 hown hK hP 0 rfl rfl 9 (by decide) (hts (.fieldLink RX5 34 "WordScalesModel" "sightHow" "[I") (List.mem_of_getElem? (i := 4) rfl)) (fun _ h9 => h9) rfl dX5_hollow_48 ?_
          refine lv_iload_n hx hb dX5_hollow_51 rfl (lv_at hl 1 rfl) ?_
          refine va_iald (D := D) (f := vsightHow) hx hb hK hP 9 0 rfl rfl v3 dX5_hollow_52 ?_
          refine lv_iconst (v := 1) hx hb dX5_hollow_53 (by decide) ?_
          refine lv_icmp_ne (tgt := 66) hx hb dX5_hollow_54 (by decide) (fun c5 => ?_) (fun c5 => ?_)
          · rw [if_neg c5] at hs6
            refine lv_sipush (v := 4095) hx hb dX5_hollow_66 (by decide) ?_
            refine lv_iload_n hx hb dX5_hollow_69 rfl (lv_at hl 0 rfl) ?_
            refine lv_iconst (v := (-1)) hx hb dX5_hollow_70 (by decide) ?_
            refine lv_ixor hx hb dX5_hollow_71 ?_
            refine lv_iand hx hb dX5_hollow_72 ?_
            refine lv_iand hx hb dX5_hollow_73 ?_
            refine lv_istore_n (lv' := [(1, .int (x6_l1 &&& (4095 &&& (((vsightLeft (x6_l2).toNatClampNeg) ||| (vsightRight (x6_l2).toNatClampNeg)) ^^^ (-1))))), (3, .int ((vsightLeft (x6_l2).toNatClampNeg) ||| (vsightRight (x6_l2).toNatClampNeg))), (2, .int x6_l2), (0, .ref (q 0))]) hx hb dX5_hollow_74 rfl hl (by decide) rfl (fun ls hl => ?_)
            refine lv_iinc (v := (x6_l2 + 1)) (lv' := [(2, .int (x6_l2 + 1)), (1, .int (x6_l1 &&& (4095 &&& (((vsightLeft (x6_l2).toNatClampNeg) ||| (vsightRight (x6_l2).toNatClampNeg)) ^^^ (-1))))), (3, .int ((vsightLeft (x6_l2).toNatClampNeg) ||| (vsightRight (x6_l2).toNatClampNeg))), (0, .ref (q 0))]) hx hb dX5_hollow_75 hl (k := 2) rfl (by rfl) (by decide) rfl (fun ls hl => ?_)
            refine lv_goto (tgt := 6) hx hb dX5_hollow_78 (by decide) ?_
            obtain rfl := Option.some.inj hs6
            exact ih6 _ _ _ _ _ hw6 hP hD hS (lv_sub hl [0, 1, 3] rfl)
          · rw [if_pos c5] at hs6
            refine lv_aload_n hx hb dX5_hollow_57 rfl (lv_at hl 3 rfl) ?_
            refine va_get (D := D) (ci := 5) (v := .ref (q 8)) (C := RX5) (T := TX5) (N := 33) hx hb hts inX5_hollow_X5 hown hK hP 0 rfl rfl 8 (by decide) (hts (.fieldLink RX5 31 "WordScalesModel" "sightRight" "[I") (List.mem_of_getElem? (i := 3) rfl)) (fun _ h9 => h9) rfl dX5_hollow_58 ?_
            refine lv_iload_n hx hb dX5_hollow_61 rfl (lv_at hl 1 rfl) ?_
            refine va_iald (D := D) (f := vsightRight) hx hb hK hP 8 0 rfl rfl v3 dX5_hollow_62 ?_
            refine lv_goto (tgt := 73) hx hb dX5_hollow_63 (by decide) ?_
            refine lv_iand hx hb dX5_hollow_73 ?_
            refine lv_istore_n (lv' := [(1, .int (x6_l1 &&& (vsightRight (x6_l2).toNatClampNeg))), (3, .int ((vsightLeft (x6_l2).toNatClampNeg) ||| (vsightRight (x6_l2).toNatClampNeg))), (2, .int x6_l2), (0, .ref (q 0))]) hx hb dX5_hollow_74 rfl hl (by decide) rfl (fun ls hl => ?_)
            refine lv_iinc (v := (x6_l2 + 1)) (lv' := [(2, .int (x6_l2 + 1)), (1, .int (x6_l1 &&& (vsightRight (x6_l2).toNatClampNeg))), (3, .int ((vsightLeft (x6_l2).toNatClampNeg) ||| (vsightRight (x6_l2).toNatClampNeg))), (0, .ref (q 0))]) hx hb dX5_hollow_75 hl (k := 2) rfl (by rfl) (by decide) rfl (fun ls hl => ?_)
            refine lv_goto (tgt := 6) hx hb dX5_hollow_78 (by decide) ?_
            obtain rfl := Option.some.inj hs6
            exact ih6 _ _ _ _ _ hw6 hP hD hS (lv_sub hl [0, 1, 3] rfl)
        · rw [if_pos c4] at hs6
          refine lv_aload_n hx hb dX5_hollow_38 rfl (lv_at hl 3 rfl) ?_
          refine va_get (D := D) (ci := 5) (v := .ref (q 7)) (C := RX5) (T := TX5) (N := 33) hx hb hts inX5_hollow_X5 hown hK hP 0 rfl rfl 7 (by decide) (hts (.fieldLink RX5 28 "WordScalesModel" "sightLeft" "[I") (List.mem_of_getElem? (i := 2) rfl)) (fun _ h9 => h9) rfl dX5_hollow_39 ?_
          refine lv_iload_n hx hb dX5_hollow_42 rfl (lv_at hl 1 rfl) ?_
          refine va_iald (D := D) (f := vsightLeft) hx hb hK hP 7 0 rfl rfl v3 dX5_hollow_43 ?_
          refine lv_goto (tgt := 73) hx hb dX5_hollow_44 (by decide) ?_
          refine lv_iand hx hb dX5_hollow_73 ?_
          refine lv_istore_n (lv' := [(1, .int (x6_l1 &&& (vsightLeft (x6_l2).toNatClampNeg))), (3, .int ((vsightLeft (x6_l2).toNatClampNeg) ||| (vsightRight (x6_l2).toNatClampNeg))), (2, .int x6_l2), (0, .ref (q 0))]) hx hb dX5_hollow_74 rfl hl (by decide) rfl (fun ls hl => ?_)
          refine lv_iinc (v := (x6_l2 + 1)) (lv' := [(2, .int (x6_l2 + 1)), (1, .int (x6_l1 &&& (vsightLeft (x6_l2).toNatClampNeg))), (3, .int ((vsightLeft (x6_l2).toNatClampNeg) ||| (vsightRight (x6_l2).toNatClampNeg))), (0, .ref (q 0))]) hx hb dX5_hollow_75 hl (k := 2) rfl (by rfl) (by decide) rfl (fun ls hl => ?_)
          refine lv_goto (tgt := 6) hx hb dX5_hollow_78 (by decide) ?_
          obtain rfl := Option.some.inj hs6
          exact ih6 _ _ _ _ _ hw6 hP hD hS (lv_sub hl [0, 1, 3] rfl)
  exact lp6 5000 _ _ _ _ _ hr1 hP hD hS (lv_sub hl [0, 1, 2] rfl)
def f_X5_worse (p0 : Int32) (p1 : Int32) : Int32 := if p1 ≤ (p0 - (2 * p1)) then ((p0 - (2 * p1))) else (p1)
theorem yd_X5_worse : yX5_worse.cls ≠ "java/lang/invoke/MethodHandle" ∧ yX5_worse.cls ≠ "java/lang/invoke/VarHandle" ∧ (parseMethodDescriptor yX5_worse.desc).map (fun d => d.parameters.length) = some 2 := by decide +kernel
abbrev rmX5_worse : Room := { frames := 0, cells := 0, slots := 0, locals := 0 }
set_option maxHeartbeats 4000000 in
set_option maxRecDepth 100000 in
theorem k_X5_worse (l : Launch) (D : va_G) (K : Nat → ClassId) (p0 : Int32) (p1 : Int32) (out : Int32) (hf : f_X5_worse p0 p1 = out) : kI l D K .int yX5_worse wsX5_worse rmX5_worse [.int p0, .int p1] ([] : va_W) out ([] : va_W) := by
  refine kI.of (cc := cX5_worse) (maxL := 2) (by decide) rfl (Nat.le_of_ble_eq_true rfl) ?_
  intro p e s m args below meth c A H0 Q ls hx hb hml hown hts hK hN hA hP hD hS hl hret
  have hown : s.vm.findClass RX5 = some m.cls := hown
  have hl : lv_has ls 2 [(0, .int p0), (1, .int p1)] := hl
  generalize hH : H0 = H at hP ⊢
  have hS : va_S A H0 H [] := by rw [← hH]; exact hS
  clear hH
  unfold f_X5_worse at hf
  refine lv_iload_n hx hb dX5_worse_0 rfl (lv_at hl 1 rfl) ?_
  refine lv_iload_n hx hb dX5_worse_1 rfl (lv_at hl 0 rfl) ?_
  refine lv_iconst (v := 2) hx hb dX5_worse_2 (by decide) ?_
  refine lv_iload_n hx hb dX5_worse_3 rfl (lv_at hl 1 rfl) ?_
  refine lv_imul hx hb dX5_worse_4 ?_
  refine lv_isub hx hb dX5_worse_5 ?_
  refine lv_icmp_le (tgt := 13) hx hb dX5_worse_6 (by decide) (fun c1 => ?_) (fun c1 => ?_)
  · rw [if_pos c1] at hf
    refine lv_iload_n hx hb dX5_worse_13 rfl (lv_at hl 0 rfl) ?_
    refine lv_iconst (v := 2) hx hb dX5_worse_14 (by decide) ?_
    refine lv_iload_n hx hb dX5_worse_15 rfl (lv_at hl 1 rfl) ?_
    refine lv_imul hx hb dX5_worse_16 ?_
    refine lv_isub hx hb dX5_worse_17 ?_
    subst hf
    exact hret rfl rfl rfl hP hD hS dX5_worse_18
  · rw [if_neg c1] at hf
    refine lv_iload_n hx hb dX5_worse_9 rfl (lv_at hl 1 rfl) ?_
    refine lv_goto (tgt := 18) hx hb dX5_worse_10 (by decide) ?_
    subst hf
    exact hret rfl rfl rfl hP hD hS dX5_worse_18
def s_X5_turnsFor_4 (p0 : Int32) (x : Int32 × Int32) : Option ((Int32 × Int32) ⊕ (Int32 × Int32)) := if p0 ≤ x.2 then (some (.inr (x.1, x.2))) else (some (.inl ((x.1 + 1), (x.2 * 3))))
def f_X5_turnsFor (p0 : Int32) : Option (Int32) := ob (wh (s_X5_turnsFor_4 p0) 5000 (0, 1)) (fun r1 => some r1.1)
theorem yd_X5_turnsFor : yX5_turnsFor.cls ≠ "java/lang/invoke/MethodHandle" ∧ yX5_turnsFor.cls ≠ "java/lang/invoke/VarHandle" ∧ (parseMethodDescriptor yX5_turnsFor.desc).map (fun d => d.parameters.length) = some 1 := by decide +kernel
abbrev rmX5_turnsFor : Room := { frames := 0, cells := 0, slots := 0, locals := 0 }
set_option maxHeartbeats 4000000 in
set_option maxRecDepth 100000 in
theorem k_X5_turnsFor (l : Launch) (D : va_G) (K : Nat → ClassId) (p0 : Int32) (out : Int32) (hf : f_X5_turnsFor p0 = some out) : kI l D K .int yX5_turnsFor wsX5_turnsFor rmX5_turnsFor [.int p0] ([] : va_W) out ([] : va_W) := by
  refine kI.of (cc := cX5_turnsFor) (maxL := 3) (by decide) rfl (Nat.le_of_ble_eq_true rfl) ?_
  intro p e s m args below meth c A H0 Q ls hx hb hml hown hts hK hN hA hP hD hS hl hret
  have hown : s.vm.findClass RX5 = some m.cls := hown
  have hl : lv_has ls 3 [(0, .int p0)] := hl
  generalize hH : H0 = H at hP ⊢
  have hS : va_S A H0 H [] := by rw [← hH]; exact hS
  clear hH
  unfold f_X5_turnsFor at hf
  refine lv_iconst (v := 0) hx hb dX5_turnsFor_0 (by decide) ?_
  refine lv_istore_n (lv' := [(1, .int 0), (0, .int p0)]) hx hb dX5_turnsFor_1 rfl hl (by decide) rfl (fun ls hl => ?_)
  refine lv_iconst (v := 1) hx hb dX5_turnsFor_2 (by decide) ?_
  refine lv_istore_n (lv' := [(2, .int 1), (1, .int 0), (0, .int p0)]) hx hb dX5_turnsFor_3 rfl hl (by decide) rfl (fun ls hl => ?_)
  obtain ⟨r1, hr1, hf⟩ := ob_el hf
  have post4 : ∀ (e4_l1 : Int32) (e4_l2 : Int32) (H : Heap) (locs : List Loc) (ls : Array Slot), (some e4_l1) = some out → va_P D vwCl ([] : va_W) H → va_D A ([] : va_W) → va_S A H0 H locs → lv_has ls 3 [(2, .int e4_l2), (1, .int e4_l1), (0, .int p0)] → W p l e rmX5_turnsFor s m args below meth c H locs 0 0 Q (F0 m 19 ls []) := by
    intro e4_l1 e4_l2 H locs ls hf hP hD hS hl
    refine lv_iload_n hx hb dX5_turnsFor_19 rfl (lv_at hl 1 rfl) ?_
    obtain rfl := Option.some.inj hf
    exact hret rfl rfl rfl hP hD hS dX5_turnsFor_20
  have lp4 : ∀ (fu : Nat) (x4_l1 : Int32) (x4_l2 : Int32) (H : Heap) (locs : List Loc) (ls : Array Slot), wh (s_X5_turnsFor_4 p0) fu (x4_l1, x4_l2) = some r1 → va_P D vwCl ([] : va_W) H → va_D A ([] : va_W) → va_S A H0 H locs → lv_has ls 3 [(2, .int x4_l2), (1, .int x4_l1), (0, .int p0)] → W p l e rmX5_turnsFor s m args below meth c H locs 0 0 Q (F0 m 4 ls []) := by
    intro fu
    induction fu with
    | zero => intro x4_l1 x4_l2 H locs ls hw4; cases hw4
    | succ fu ih4 =>
      intro x4_l1 x4_l2 H locs ls hw4 hP hD hS hl
      obtain ⟨o4_, hs4, hw4⟩ := wh_el hw4
      unfold s_X5_turnsFor_4 at hs4
      dsimp only at hs4
      refine lv_iload_n hx hb dX5_turnsFor_4 rfl (lv_at hl 0 rfl) ?_
      refine lv_iload_n hx hb dX5_turnsFor_5 rfl (lv_at hl 2 rfl) ?_
      refine lv_icmp_ge (tgt := 19) hx hb dX5_turnsFor_6 (by decide) (fun c2 => ?_) (fun c2 => ?_)
      · rw [if_pos c2] at hs4
        obtain rfl := Option.some.inj hs4
        have e9 := Option.some.inj hw4
        rw [← e9] at hf
        exact post4 _ _ _ _ _ hf hP hD hS (lv_sub hl [0, 1, 2] rfl)
      · rw [if_neg c2] at hs4
        refine lv_iinc (v := (x4_l1 + 1)) (lv' := [(1, .int (x4_l1 + 1)), (2, .int x4_l2), (0, .int p0)]) hx hb dX5_turnsFor_9 hl (k := 1) rfl (by rfl) (by decide) rfl (fun ls hl => ?_)
        refine lv_iload_n hx hb dX5_turnsFor_12 rfl (lv_at hl 1 rfl) ?_
        refine lv_iconst (v := 3) hx hb dX5_turnsFor_13 (by decide) ?_
        refine lv_imul hx hb dX5_turnsFor_14 ?_
        refine lv_istore_n (lv' := [(2, .int (x4_l2 * 3)), (1, .int (x4_l1 + 1)), (0, .int p0)]) hx hb dX5_turnsFor_15 rfl hl (by decide) rfl (fun ls hl => ?_)
        refine lv_goto (tgt := 4) hx hb dX5_turnsFor_16 (by decide) ?_
        obtain rfl := Option.some.inj hs4
        exact ih4 _ _ _ _ _ hw4 hP hD hS (lv_sub hl [0, 1, 2] rfl)
  exact lp4 5000 _ _ _ _ _ hr1 hP hD hS (lv_sub hl [0, 1, 2] rfl)
def s_X5_lay_45 (o4 : Int32) (x : Int32 × Int32) : Option ((Int32 × Int32) ⊕ (Int32 × Int32)) := if o4 < (2 * x.2) then (some (.inr (x.1, x.2))) else (bd (f_X5_worse o4 x.2) (fun o11 => bd (f_X5_worse o4 x.1) (fun o12 => if o12 ≤ o11 then (some (.inl (x.1, (x.2 + 1)))) else (some (.inl (x.2, (x.2 + 1)))))))
def f_X5_lay (vsightLeft : Nat → Int32) (vsightRight : Nat → Int32) (vsightHow : Nat → Int32) (vsights : Int32) (p0 : Int32) : Option (Int32) := bd (f_X5_in p0.toInt64 (0) (2)) (fun o1 => if o1 = 0 then (some (-2)) else (ob (f_X5_hollow vsightLeft vsightRight vsightHow vsights) (fun o3 => ob (f_X5_ones o3) (fun o4 => if p0 = 2 then (ob (f_X5_turnsFor o4) (fun o14 => some o14)) else (if o4 = 0 then (some (-6)) else (ob (wh (s_X5_lay_45 o4) 5000 (0, 1)) (fun r7 => if p0 = 0 then (some r7.1) else (bd (f_X5_worse o4 r7.1) (fun o9 => some o9)))))))))
theorem yd_X5_lay : yX5_lay.cls ≠ "java/lang/invoke/MethodHandle" ∧ yX5_lay.cls ≠ "java/lang/invoke/VarHandle" ∧ (parseMethodDescriptor yX5_lay.desc).map (fun d => d.parameters.length) = some 1 := by decide +kernel
abbrev rmX5_lay : Room := { frames := 1, cells := 0, slots := 0, locals := 25 }
set_option maxHeartbeats 4000000 in
set_option maxRecDepth 100000 in
theorem k_X5_lay (l : Launch) (D : va_G) (K : Nat → ClassId) (q : Nat → Nat) (vweight : Nat → Int32) (vkind : Nat → Int32) (vrhymes : Nat → Int32) (vpurse : Nat → Int32) (vhas : Nat → Int32) (vwishes : Nat → Int32) (vwishMany : Int32) (vsightLeft : Nat → Int32) (vsightRight : Nat → Int32) (vsightHow : Nat → Int32) (vsights : Int32) (vpad : Nat → Int32) (vpadMany : Int32) (vact : Nat → Int32) (vwho : Nat → Int32) (vwhich : Nat → Int32) (vwhom : Nat → Int32) (vacts : Int32) (vplace : Int32) (vopenMany : Int32) (vended : Int32) (vspoken : Int32) (vheaviest : Int32) (vheaviestWeight : Int32) (vhad : Nat → Int32) (vbadAct : Int32) (vbadWhy : Int32) (vbrings : Nat → Int64) (vbringsThen : Nat → Int64) (vkept : Nat → Int32) (visKept : Nat → Int32) (vkeptAt : Int32) (visWriting : Int32) (p0 : Int32) (out : Int32) (hf : f_X5_lay vsightLeft vsightRight vsightHow vsights p0 = some out) : kI l D K .int yX5_lay wsX5_lay rmX5_lay [.ref (q 0), .int p0] (mdW K q vweight vkind vrhymes vpurse vhas vwishes vwishMany vsightLeft vsightRight vsightHow vsights vpad vpadMany vact vwho vwhich vwhom vacts vplace vopenMany vended vspoken vheaviest vheaviestWeight vhad vbadAct vbadWhy vbrings vbringsThen vkept visKept vkeptAt visWriting) out (mdW K q vweight vkind vrhymes vpurse vhas vwishes vwishMany vsightLeft vsightRight vsightHow vsights vpad vpadMany vact vwho vwhich vwhom vacts vplace vopenMany vended vspoken vheaviest vheaviestWeight vhad vbadAct vbadWhy vbrings vbringsThen vkept visKept vkeptAt visWriting) := by
  refine kI.of (cc := cX5_lay) (maxL := 5) (by decide) rfl (Nat.le_of_ble_eq_true rfl) ?_
  intro p e s m args below meth c A H0 Q ls hx hb hml hown hts hK hN hA hP hD hS hl hret
  have hown : s.vm.findClass RX5 = some m.cls := hown
  have hl : lv_has ls 5 [(0, .ref (q 0)), (1, .int p0)] := hl
  generalize hH : H0 = H at hP ⊢
  have hS : va_S A H0 H [] := by rw [← hH]; exact hS
  clear hH
  unfold f_X5_lay at hf
  refine lv_iload_n hx hb dX5_lay_0 rfl (lv_at hl 1 rfl) ?_
  refine lv_i2l (v := p0.toInt64) hx hb dX5_lay_1 rfl ?_
  refine lv_lconst (v := 0) hx hb dX5_lay_2 (by decide) ?_
  refine lv_ldc2 hx hb hown (hts (.constantLong RX5 83 (2)) (List.mem_of_getElem? (i := 1) rfl)) dX5_lay_3 ?_
  obtain ⟨o1, ho1, hf⟩ := bd_el hf
  refine kc0_i (D := D) (va_runS (As := [.long p0.toInt64, .long 0, .long 2]) (rest := []) ⟨hx, hb, hml, hown, hts⟩ ((k_X5_in l D K p0.toInt64 (0) (2) o1 ho1) H.size) (va_cwS 3 hts gX5_lay_X5_in rfl rfl rfl yd_X5_in ⟨Nat.le_of_ble_eq_true rfl, Nat.le_of_ble_eq_true rfl⟩) (kPreS va_P_nil (va_D_nil (A := fun _ => True)) hK hN) rfl rfl hl.1 rfl (lv_room (Nat.le_of_ble_eq_true rfl)) dX5_lay_6 ⟨Nat.le_of_ble_eq_true rfl, Nat.le_of_ble_eq_true rfl⟩) hP hS hA (fun hzo1 H locs hP hS => ?_)
  refine lv_if_ne (tgt := 15) hx hb dX5_lay_9 (by decide) (fun c2 => ?_) (fun c2 => ?_)
  · rw [if_neg c2] at hf
    refine lv_aload_n hx hb dX5_lay_15 rfl (lv_at hl 0 rfl) ?_
    obtain ⟨o3, ho3, hf⟩ := ob_el hf
    refine kcw_i (D := D) (va_runV (As := []) (rest := []) ⟨hx, hb, hml, hown, hts⟩ ((k_X5_hollow l D K q vweight vkind vrhymes vpurse vhas vwishes vwishMany vsightLeft vsightRight vsightHow vsights vpad vpadMany vact vwho vwhich vwhom vacts vplace vopenMany vended vspoken vheaviest vheaviestWeight vhad vbadAct vbadWhy vbrings vbringsThen vkept visKept vkeptAt visWriting o3 ho3) H.size) (cwV 0 hts gX5_lay_X5_hollow rfl rfl rfl ⟨rfl, yd_X5_hollow⟩ ⟨Nat.le_of_ble_eq_true rfl, Nat.le_of_ble_eq_true rfl⟩) (kPreV (ci := 5) (q0 := 0) hP rfl rfl hP hD hK hN) rfl rfl hl.1 rfl (lv_room (Nat.le_of_ble_eq_true rfl)) dX5_lay_16 ⟨Nat.le_of_ble_eq_true rfl, Nat.le_of_ble_eq_true rfl⟩) hD hS hA (fun hzo3 H locs hP hD hS => ?_)
    have hP : va_P D vwCl (mdW K q vweight vkind vrhymes vpurse vhas vwishes vwishMany vsightLeft vsightRight vsightHow vsights vpad vpadMany vact vwho vwhich vwhom vacts vplace vopenMany vended vspoken vheaviest vheaviestWeight vhad vbadAct vbadWhy vbrings vbringsThen vkept visKept vkeptAt visWriting) H := hP
    have hD : va_D A (mdW K q vweight vkind vrhymes vpurse vhas vwishes vwishMany vsightLeft vsightRight vsightHow vsights vpad vpadMany vact vwho vwhich vwhom vacts vplace vopenMany vended vspoken vheaviest vheaviestWeight vhad vbadAct vbadWhy vbrings vbringsThen vkept visKept vkeptAt visWriting) := hD
    obtain ⟨o4, ho4, hf⟩ := ob_el hf
    refine kc0_i (D := D) (va_runS (As := [.int o3]) (rest := []) ⟨hx, hb, hml, hown, hts⟩ ((k_X5_ones l D K o3 o4 ho4) H.size) (va_cwS 1 hts gX5_lay_X5_ones rfl rfl rfl yd_X5_ones ⟨Nat.le_of_ble_eq_true rfl, Nat.le_of_ble_eq_true rfl⟩) (kPreS va_P_nil (va_D_nil (A := fun _ => True)) hK hN) rfl rfl hl.1 rfl (lv_room (Nat.le_of_ble_eq_true rfl)) dX5_lay_19 ⟨Nat.le_of_ble_eq_true rfl, Nat.le_of_ble_eq_true rfl⟩) hP hS hA (fun hzo4 H locs hP hS => ?_)
    refine lv_istore_n (lv' := [(2, .int o4), (0, .ref (q 0)), (1, .int p0)]) hx hb dX5_lay_22 rfl hl (by decide) rfl (fun ls hl => ?_)
    refine lv_iload_n hx hb dX5_lay_23 rfl (lv_at hl 2 rfl) ?_
    refine lv_iconst (v := 2) hx hb dX5_lay_24 (by decide) ?_
    refine lv_icmp_ne (tgt := 33) hx hb dX5_lay_25 (by decide) (fun c5 => ?_) (fun c5 => ?_)
    · rw [if_neg c5] at hf
      refine lv_iload_n hx hb dX5_lay_33 rfl (lv_at hl 0 rfl) ?_
      refine lv_if_ne (tgt := 40) hx hb dX5_lay_34 (by decide) (fun c6 => ?_) (fun c6 => ?_)
      · rw [if_neg c6] at hf
        refine lv_iconst (v := 0) hx hb dX5_lay_40 (by decide) ?_
        refine lv_istore_n (lv' := [(3, .int 0), (2, .int o4), (0, .ref (q 0)), (1, .int p0)]) hx hb dX5_lay_41 rfl hl (by decide) rfl (fun ls hl => ?_)
        refine lv_iconst (v := 1) hx hb dX5_lay_42 (by decide) ?_
        refine lv_istore (lv' := [(4, .int 1), (3, .int 0), (2, .int o4), (0, .ref (q 0)), (1, .int p0)]) hx hb dX5_lay_43 hl (by decide) rfl (fun ls hl => ?_)
        obtain ⟨r7, hr7, hf⟩ := ob_el hf
        have post45 : ∀ (e45_l3 : Int32) (e45_l4 : Int32) (H : Heap) (locs : List Loc) (ls : Array Slot), (if p0 = 0 then (some e45_l3) else (bd (f_X5_worse o4 e45_l3) (fun o9 => some o9))) = some out → va_P D vwCl (mdW K q vweight vkind vrhymes vpurse vhas vwishes vwishMany vsightLeft vsightRight vsightHow vsights vpad vpadMany vact vwho vwhich vwhom vacts vplace vopenMany vended vspoken vheaviest vheaviestWeight vhad vbadAct vbadWhy vbrings vbringsThen vkept visKept vkeptAt visWriting) H → va_D A (mdW K q vweight vkind vrhymes vpurse vhas vwishes vwishMany vsightLeft vsightRight vsightHow vsights vpad vpadMany vact vwho vwhich vwhom vacts vplace vopenMany vended vspoken vheaviest vheaviestWeight vhad vbadAct vbadWhy vbrings vbringsThen vkept visKept vkeptAt visWriting) → va_S A H0 H locs → lv_has ls 5 [(4, .int e45_l4), (3, .int e45_l3), (2, .int o4), (0, .ref (q 0)), (1, .int p0)] → W p l e rmX5_lay s m args below meth c H locs 0 0 Q (F0 m 80 ls []) := by
          intro e45_l3 e45_l4 H locs ls hf hP hD hS hl
          refine lv_iload_n hx hb dX5_lay_80 rfl (lv_at hl 4 rfl) ?_
          refine lv_if_ne (tgt := 88) hx hb dX5_lay_81 (by decide) (fun c8 => ?_) (fun c8 => ?_)
          · rw [if_neg c8] at hf
            refine lv_iload_n hx hb dX5_lay_88 rfl (lv_at hl 2 rfl) ?_
            refine lv_iload_n hx hb dX5_lay_89 rfl (lv_at hl 1 rfl) ?_
            obtain ⟨o9, ho9, hf⟩ := bd_el hf
            refine kc0_i (D := D) (va_runS (As := [.int o4, .int e45_l3]) (rest := []) ⟨hx, hb, hml, hown, hts⟩ ((k_X5_worse l D K o4 e45_l3 o9 ho9) H.size) (va_cwS 2 hts gX5_lay_X5_worse rfl rfl rfl yd_X5_worse ⟨Nat.le_of_ble_eq_true rfl, Nat.le_of_ble_eq_true rfl⟩) (kPreS va_P_nil (va_D_nil (A := fun _ => True)) hK hN) rfl rfl hl.1 rfl (lv_room (Nat.le_of_ble_eq_true rfl)) dX5_lay_90 ⟨Nat.le_of_ble_eq_true rfl, Nat.le_of_ble_eq_true rfl⟩) hP hS hA (fun hzo9 H locs hP hS => ?_)
            obtain rfl := Option.some.inj hf
            exact hret rfl rfl rfl hP hD hS dX5_lay_93
          · rw [if_pos c8] at hf
            refine lv_iload_n hx hb dX5_lay_84 rfl (lv_at hl 1 rfl) ?_
            refine lv_goto (tgt := 93) hx hb dX5_lay_85 (by decide) ?_
            obtain rfl := Option.some.inj hf
            exact hret rfl rfl rfl hP hD hS dX5_lay_93
        have lp45 : ∀ (fu : Nat) (x45_l3 : Int32) (x45_l4 : Int32) (H : Heap) (locs : List Loc) (ls : Array Slot), wh (s_X5_lay_45 o4) fu (x45_l3, x45_l4) = some r7 → va_P D vwCl (mdW K q vweight vkind vrhymes vpurse vhas vwishes vwishMany vsightLeft vsightRight vsightHow vsights vpad vpadMany vact vwho vwhich vwhom vacts vplace vopenMany vended vspoken vheaviest vheaviestWeight vhad vbadAct vbadWhy vbrings vbringsThen vkept visKept vkeptAt visWriting) H → va_D A (mdW K q vweight vkind vrhymes vpurse vhas vwishes vwishMany vsightLeft vsightRight vsightHow vsights vpad vpadMany vact vwho vwhich vwhom vacts vplace vopenMany vended vspoken vheaviest vheaviestWeight vhad vbadAct vbadWhy vbrings vbringsThen vkept visKept vkeptAt visWriting) → va_S A H0 H locs → lv_has ls 5 [(4, .int x45_l4), (3, .int x45_l3), (2, .int o4), (0, .ref (q 0)), (1, .int p0)] → W p l e rmX5_lay s m args below meth c H locs 0 0 Q (F0 m 45 ls []) := by
          intro fu
          induction fu with
          | zero => intro x45_l3 x45_l4 H locs ls hw45; cases hw45
          | succ fu ih45 =>
            intro x45_l3 x45_l4 H locs ls hw45 hP hD hS hl
            obtain ⟨o45_, hs45, hw45⟩ := wh_el hw45
            unfold s_X5_lay_45 at hs45
            dsimp only at hs45
            refine lv_iconst (v := 2) hx hb dX5_lay_45 (by decide) ?_
            refine lv_iload hx hb dX5_lay_46 (lv_at hl 0 rfl) ?_
            refine lv_imul hx hb dX5_lay_48 ?_
            refine lv_iload_n hx hb dX5_lay_49 rfl (lv_at hl 2 rfl) ?_
            refine lv_icmp_gt (tgt := 80) hx hb dX5_lay_50 (by decide) (fun c10 => ?_) (fun c10 => ?_)
            · rw [if_pos c10] at hs45
              obtain rfl := Option.some.inj hs45
              have e9 := Option.some.inj hw45
              rw [← e9] at hf
              exact post45 _ _ _ _ _ hf hP hD hS (lv_sub hl [0, 1, 2, 3, 4] rfl)
            · rw [if_neg c10] at hs45
              refine lv_iload_n hx hb dX5_lay_53 rfl (lv_at hl 2 rfl) ?_
              refine lv_iload hx hb dX5_lay_54 (lv_at hl 0 rfl) ?_
              obtain ⟨o11, ho11, hs45⟩ := bd_el hs45
              refine kc0_i (D := D) (va_runS (As := [.int o4, .int x45_l4]) (rest := []) ⟨hx, hb, hml, hown, hts⟩ ((k_X5_worse l D K o4 x45_l4 o11 ho11) H.size) (va_cwS 2 hts gX5_lay_X5_worse rfl rfl rfl yd_X5_worse ⟨Nat.le_of_ble_eq_true rfl, Nat.le_of_ble_eq_true rfl⟩) (kPreS va_P_nil (va_D_nil (A := fun _ => True)) hK hN) rfl rfl hl.1 rfl (lv_room (Nat.le_of_ble_eq_true rfl)) dX5_lay_56 ⟨Nat.le_of_ble_eq_true rfl, Nat.le_of_ble_eq_true rfl⟩) hP hS hA (fun hzo11 H locs hP hS => ?_)
              refine lv_iload_n hx hb dX5_lay_59 rfl (lv_at hl 2 rfl) ?_
              refine lv_iload_n hx hb dX5_lay_60 rfl (lv_at hl 1 rfl) ?_
              obtain ⟨o12, ho12, hs45⟩ := bd_el hs45
              refine kc0_i (D := D) (va_runS (As := [.int o4, .int x45_l3]) (rest := [.int o11]) ⟨hx, hb, hml, hown, hts⟩ ((k_X5_worse l D K o4 x45_l3 o12 ho12) H.size) (va_cwS 2 hts gX5_lay_X5_worse rfl rfl rfl yd_X5_worse ⟨Nat.le_of_ble_eq_true rfl, Nat.le_of_ble_eq_true rfl⟩) (kPreS va_P_nil (va_D_nil (A := fun _ => True)) hK hN) rfl rfl hl.1 rfl (lv_room (Nat.le_of_ble_eq_true rfl)) dX5_lay_61 ⟨Nat.le_of_ble_eq_true rfl, Nat.le_of_ble_eq_true rfl⟩) hP hS hA (fun hzo12 H locs hP hS => ?_)
              refine lv_icmp_ge (tgt := 72) hx hb dX5_lay_64 (by decide) (fun c13 => ?_) (fun c13 => ?_)
              · rw [if_pos c13] at hs45
                refine lv_iload_n hx hb dX5_lay_72 rfl (lv_at hl 1 rfl) ?_
                refine lv_istore_n (lv' := [(3, .int x45_l3), (4, .int x45_l4), (2, .int o4), (0, .ref (q 0)), (1, .int p0)]) hx hb dX5_lay_73 rfl hl (by decide) rfl (fun ls hl => ?_)
                refine lv_iinc (v := (x45_l4 + 1)) (lv' := [(4, .int (x45_l4 + 1)), (3, .int x45_l3), (2, .int o4), (0, .ref (q 0)), (1, .int p0)]) hx hb dX5_lay_74 hl (k := 1) rfl (by rfl) (by decide) rfl (fun ls hl => ?_)
                refine lv_goto (tgt := 45) hx hb dX5_lay_77 (by decide) ?_
                obtain rfl := Option.some.inj hs45
                exact ih45 _ _ _ _ _ hw45 hP hD hS (lv_sub hl [0, 1, 2, 3, 4] rfl)
              · rw [if_neg c13] at hs45
                refine lv_iload hx hb dX5_lay_67 (lv_at hl 0 rfl) ?_
                refine lv_goto (tgt := 73) hx hb dX5_lay_69 (by decide) ?_
                refine lv_istore_n (lv' := [(3, .int x45_l4), (4, .int x45_l4), (2, .int o4), (0, .ref (q 0)), (1, .int p0)]) hx hb dX5_lay_73 rfl hl (by decide) rfl (fun ls hl => ?_)
                refine lv_iinc (v := (x45_l4 + 1)) (lv' := [(4, .int (x45_l4 + 1)), (3, .int x45_l4), (2, .int o4), (0, .ref (q 0)), (1, .int p0)]) hx hb dX5_lay_74 hl (k := 1) rfl (by rfl) (by decide) rfl (fun ls hl => ?_)
                refine lv_goto (tgt := 45) hx hb dX5_lay_77 (by decide) ?_
                obtain rfl := Option.some.inj hs45
                exact ih45 _ _ _ _ _ hw45 hP hD hS (lv_sub hl [0, 1, 2, 3, 4] rfl)
        exact lp45 5000 _ _ _ _ _ hr7 hP hD hS (lv_sub hl [0, 1, 2, 3, 4] rfl)
      · rw [if_pos c6] at hf
        refine lv_bipush (v := (-6)) hx hb dX5_lay_37 (by decide) ?_
        obtain rfl := Option.some.inj hf
        exact hret rfl rfl rfl hP hD hS dX5_lay_39
    · rw [if_pos c5] at hf
      refine lv_iload_n hx hb dX5_lay_28 rfl (lv_at hl 0 rfl) ?_
      obtain ⟨o14, ho14, hf⟩ := ob_el hf
      refine kc0_i (D := D) (va_runS (As := [.int o4]) (rest := []) ⟨hx, hb, hml, hown, hts⟩ ((k_X5_turnsFor l D K o4 o14 ho14) H.size) (va_cwS 1 hts gX5_lay_X5_turnsFor rfl rfl rfl yd_X5_turnsFor ⟨Nat.le_of_ble_eq_true rfl, Nat.le_of_ble_eq_true rfl⟩) (kPreS va_P_nil (va_D_nil (A := fun _ => True)) hK hN) rfl rfl hl.1 rfl (lv_room (Nat.le_of_ble_eq_true rfl)) dX5_lay_29 ⟨Nat.le_of_ble_eq_true rfl, Nat.le_of_ble_eq_true rfl⟩) hP hS hA (fun hzo14 H locs hP hS => ?_)
      obtain rfl := Option.some.inj hf
      exact hret rfl rfl rfl hP hD hS dX5_lay_32
  · rw [if_pos c2] at hf
    refine lv_bipush (v := (-2)) hx hb dX5_lay_12 (by decide) ?_
    obtain rfl := Option.some.inj hf
    exact hret rfl rfl rfl hP hD hS dX5_lay_14
def s_X5_lowest_6 (x : Int64 × Int64) : Option ((Int64 × Int64) ⊕ (Int64 × Int64)) := if (lg_cmp x.2 0) = 0 then (some (.inr (x.1, x.2))) else (nzl x.2 (some (.inl (x.2, (x.1 - x.1 / x.2 * x.2)))))
def f_X5_lowest (p0 : Int64) (p1 : Int64) (p2 : Int32) : Option (Int64) := ob (wh (s_X5_lowest_6) 5000 (p1, p0)) (fun r1 => if p2 = 0 then (nzl r1.1 (some (p0 / r1.1))) else (nzl r1.1 (some (p1 / r1.1))))
theorem yd_X5_lowest : yX5_lowest.cls ≠ "java/lang/invoke/MethodHandle" ∧ yX5_lowest.cls ≠ "java/lang/invoke/VarHandle" ∧ (parseMethodDescriptor yX5_lowest.desc).map (fun d => d.parameters.length) = some 3 := by decide +kernel
abbrev rmX5_lowest : Room := { frames := 0, cells := 0, slots := 0, locals := 0 }
set_option maxHeartbeats 4000000 in
set_option maxRecDepth 100000 in
theorem k_X5_lowest (l : Launch) (D : va_G) (K : Nat → ClassId) (p0 : Int64) (p1 : Int64) (p2 : Int32) (out : Int64) (hf : f_X5_lowest p0 p1 p2 = some out) : kL l D K yX5_lowest wsX5_lowest rmX5_lowest [.long p0, .long p1, .int p2] ([] : va_W) out ([] : va_W) := by
  refine kL.of (cc := cX5_lowest) (maxL := 11) (by decide) rfl (Nat.le_of_ble_eq_true rfl) ?_
  intro p e s m args below meth c A H0 Q ls hx hb hml hown hts hK hN hA hP hD hS hl hret
  have hown : s.vm.findClass RX5 = some m.cls := hown
  have hl : lv_has ls 11 [(0, .long p0), (2, .long p1), (4, .int p2)] := hl
  generalize hH : H0 = H at hP ⊢
  have hS : va_S A H0 H [] := by rw [← hH]; exact hS
  clear hH
  unfold f_X5_lowest at hf
  refine lv_lload_n hx hb dX5_lowest_0 rfl (lv_at hl 1 rfl) ?_
  refine lv_lstore (lv' := [(5, .long p1), (0, .long p0), (2, .long p1), (4, .int p2)]) hx hb dX5_lowest_1 hl (by decide) rfl (fun ls hl => ?_)
  refine lv_lload_n hx hb dX5_lowest_3 rfl (lv_at hl 1 rfl) ?_
  refine lv_lstore (lv' := [(7, .long p0), (5, .long p1), (0, .long p0), (2, .long p1), (4, .int p2)]) hx hb dX5_lowest_4 hl (by decide) rfl (fun ls hl => ?_)
  obtain ⟨r1, hr1, hf⟩ := ob_el hf
  have post6 : ∀ (e6_l5 : Int64) (e6_l7 : Int64) (H : Heap) (locs : List Loc) (ls : Array Slot), (if p2 = 0 then (nzl e6_l5 (some (p0 / e6_l5))) else (nzl e6_l5 (some (p1 / e6_l5)))) = some out → va_P D vwCl ([] : va_W) H → va_D A ([] : va_W) → va_S A H0 H locs → lv_has ls 11 [(7, .long e6_l7), (5, .long e6_l5), (0, .long p0), (2, .long p1), (4, .int p2)] → W p l e rmX5_lowest s m args below meth c H locs 0 0 Q (F0 m 31 ls []) := by
    intro e6_l5 e6_l7 H locs ls hf hP hD hS hl
    refine lv_iload hx hb dX5_lowest_31 (lv_at hl 4 rfl) ?_
    refine lv_if_ne (tgt := 43) hx hb dX5_lowest_33 (by decide) (fun c2 => ?_) (fun c2 => ?_)
    · rw [if_neg c2] at hf
      refine lv_lload_n hx hb dX5_lowest_43 rfl (lv_at hl 3 rfl) ?_
      refine lv_lload hx hb dX5_lowest_44 (lv_at hl 1 rfl) ?_
      obtain ⟨hz3, hf⟩ := nzl_el hf
      refine lv_ldiv hx hb dX5_lowest_46 hz3 ?_
      obtain rfl := Option.some.inj hf
      exact hret rfl rfl hP hD hS dX5_lowest_47
    · rw [if_pos c2] at hf
      refine lv_lload_n hx hb dX5_lowest_36 rfl (lv_at hl 2 rfl) ?_
      refine lv_lload hx hb dX5_lowest_37 (lv_at hl 1 rfl) ?_
      obtain ⟨hz4, hf⟩ := nzl_el hf
      refine lv_ldiv hx hb dX5_lowest_39 hz4 ?_
      refine lv_goto (tgt := 47) hx hb dX5_lowest_40 (by decide) ?_
      obtain rfl := Option.some.inj hf
      exact hret rfl rfl hP hD hS dX5_lowest_47
  have lp6 : ∀ (fu : Nat) (x6_l5 : Int64) (x6_l7 : Int64) (H : Heap) (locs : List Loc) (ls : Array Slot), wh (s_X5_lowest_6) fu (x6_l5, x6_l7) = some r1 → va_P D vwCl ([] : va_W) H → va_D A ([] : va_W) → va_S A H0 H locs → lv_has ls 11 [(7, .long x6_l7), (5, .long x6_l5), (0, .long p0), (2, .long p1), (4, .int p2)] → W p l e rmX5_lowest s m args below meth c H locs 0 0 Q (F0 m 6 ls []) := by
    intro fu
    induction fu with
    | zero => intro x6_l5 x6_l7 H locs ls hw6; cases hw6
    | succ fu ih6 =>
      intro x6_l5 x6_l7 H locs ls hw6 hP hD hS hl
      obtain ⟨o6_, hs6, hw6⟩ := wh_el hw6
      unfold s_X5_lowest_6 at hs6
      dsimp only at hs6
      refine lv_lload hx hb dX5_lowest_6 (lv_at hl 0 rfl) ?_
      refine lv_lconst (v := 0) hx hb dX5_lowest_8 (by decide) ?_
      refine W.lcmp hx hb dX5_lowest_9 ?_
      refine lv_if_eq (tgt := 31) hx hb dX5_lowest_10 (by decide) (fun c5 => ?_) (fun c5 => ?_)
      · rw [if_pos c5] at hs6
        obtain rfl := Option.some.inj hs6
        have e9 := Option.some.inj hw6
        rw [← e9] at hf
        exact post6 _ _ _ _ _ hf hP hD hS (lv_sub hl [0, 1, 2, 3, 4] rfl)
      · rw [if_neg c5] at hs6
        refine lv_lload hx hb dX5_lowest_13 (lv_at hl 1 rfl) ?_
        refine lv_lload hx hb dX5_lowest_15 (lv_at hl 0 rfl) ?_
        obtain ⟨hz6, hs6⟩ := nzl_el hs6
        refine lv_lrem hx hb dX5_lowest_17 hz6 ?_
        refine lv_lstore (lv' := [(9, .long (x6_l5 - x6_l5 / x6_l7 * x6_l7)), (7, .long x6_l7), (5, .long x6_l5), (0, .long p0), (2, .long p1), (4, .int p2)]) hx hb dX5_lowest_18 hl (by decide) rfl (fun ls hl => ?_)
        refine lv_lload hx hb dX5_lowest_20 (lv_at hl 1 rfl) ?_
        refine lv_lstore (lv' := [(5, .long x6_l7), (9, .long (x6_l5 - x6_l5 / x6_l7 * x6_l7)), (7, .long x6_l7), (0, .long p0), (2, .long p1), (4, .int p2)]) hx hb dX5_lowest_22 hl (by decide) rfl (fun ls hl => ?_)
        refine lv_lload hx hb dX5_lowest_24 (lv_at hl 1 rfl) ?_
        refine lv_lstore (lv' := [(7, .long (x6_l5 - x6_l5 / x6_l7 * x6_l7)), (5, .long x6_l7), (9, .long (x6_l5 - x6_l5 / x6_l7 * x6_l7)), (0, .long p0), (2, .long p1), (4, .int p2)]) hx hb dX5_lowest_26 hl (by decide) rfl (fun ls hl => ?_)
        refine lv_goto (tgt := 6) hx hb dX5_lowest_28 (by decide) ?_
        obtain rfl := Option.some.inj hs6
        exact ih6 _ _ _ _ _ hw6 hP hD hS (lv_sub hl [0, 1, 3, 4, 5] rfl)
  exact lp6 5000 _ _ _ _ _ hr1 hP hD hS (lv_sub hl [0, 1, 2, 3, 4] rfl)
def s_X5_weather_233 (x97_l9 : Int32) (e114_bringsThen : Nat → Int64) (x : Int32 × (Nat → Int64)) : Option ((Int32 × (Nat → Int64)) ⊕ (Int32 × (Nat → Int64))) := if (48 - x97_l9) < x.1 then (some (.inr (x.1, x.2))) else (chk x.1 50 (some (.inl ((x.1 + 1), (vp_updL x.2 (x.1).toNatClampNeg (e114_bringsThen (x.1).toNatClampNeg))))))
def s_X5_weather_114 (p0 : Int32) (p2 : Int32) (x97_l6 : Int64) (x97_l9 : Int32) (x97_brings : Nat → Int64) (x : Int32 × Int32 × (Nat → Int64)) : Option ((Int32 × Int32 × (Nat → Int64)) ⊕ (Int32 × Int32 × (Nat → Int64))) := if (48 - x97_l9) < x.2.1 then (some (.inr (x.1, x.2.1, x.2.2))) else (chk (x.2.1 + 1) 50 (if x.2.1 ≤ 0 then (if x.2.1 = p0 then (if (lg_cmp (x.2.1.toInt64 * (x97_l6 * 10)) ((p2.toInt64 * (x97_brings ((x.2.1 + 1)).toNatClampNeg)) + ((10 - p2.toInt64) * (x97_brings (0 : Int32).toNatClampNeg)))) < 0 then (chk x.2.1 50 (some (.inl (0, (x.2.1 + 1), (vp_updL x.2.2 (x.2.1).toNatClampNeg ((p2.toInt64 * (x97_brings ((x.2.1 + 1)).toNatClampNeg)) + ((10 - p2.toInt64) * (x97_brings (0 : Int32).toNatClampNeg)))))))) else (chk x.2.1 50 (some (.inl (1, (x.2.1 + 1), (vp_updL x.2.2 (x.2.1).toNatClampNeg (x.2.1.toInt64 * (x97_l6 * 10)))))))) else (if (lg_cmp (x.2.1.toInt64 * (x97_l6 * 10)) ((p2.toInt64 * (x97_brings ((x.2.1 + 1)).toNatClampNeg)) + ((10 - p2.toInt64) * (x97_brings (0 : Int32).toNatClampNeg)))) < 0 then (chk x.2.1 50 (some (.inl (x.1, (x.2.1 + 1), (vp_updL x.2.2 (x.2.1).toNatClampNeg ((p2.toInt64 * (x97_brings ((x.2.1 + 1)).toNatClampNeg)) + ((10 - p2.toInt64) * (x97_brings (0 : Int32).toNatClampNeg)))))))) else (chk x.2.1 50 (some (.inl (x.1, (x.2.1 + 1), (vp_updL x.2.2 (x.2.1).toNatClampNeg (x.2.1.toInt64 * (x97_l6 * 10))))))))) else (chk (x.2.1 - 1) 50 (if x.2.1 = p0 then (if (lg_cmp (x.2.1.toInt64 * (x97_l6 * 10)) ((p2.toInt64 * (x97_brings ((x.2.1 + 1)).toNatClampNeg)) + ((10 - p2.toInt64) * (x97_brings ((x.2.1 - 1)).toNatClampNeg)))) < 0 then (chk x.2.1 50 (some (.inl (0, (x.2.1 + 1), (vp_updL x.2.2 (x.2.1).toNatClampNeg ((p2.toInt64 * (x97_brings ((x.2.1 + 1)).toNatClampNeg)) + ((10 - p2.toInt64) * (x97_brings ((x.2.1 - 1)).toNatClampNeg)))))))) else (chk x.2.1 50 (some (.inl (1, (x.2.1 + 1), (vp_updL x.2.2 (x.2.1).toNatClampNeg (x.2.1.toInt64 * (x97_l6 * 10)))))))) else (if (lg_cmp (x.2.1.toInt64 * (x97_l6 * 10)) ((p2.toInt64 * (x97_brings ((x.2.1 + 1)).toNatClampNeg)) + ((10 - p2.toInt64) * (x97_brings ((x.2.1 - 1)).toNatClampNeg)))) < 0 then (chk x.2.1 50 (some (.inl (x.1, (x.2.1 + 1), (vp_updL x.2.2 (x.2.1).toNatClampNeg ((p2.toInt64 * (x97_brings ((x.2.1 + 1)).toNatClampNeg)) + ((10 - p2.toInt64) * (x97_brings ((x.2.1 - 1)).toNatClampNeg)))))))) else (chk x.2.1 50 (some (.inl (x.1, (x.2.1 + 1), (vp_updL x.2.2 (x.2.1).toNatClampNeg (x.2.1.toInt64 * (x97_l6 * 10))))))))))))
def s_X5_weather_97 (p0 : Int32) (p1 : Int32) (p2 : Int32) (x : Int64 × Int32 × Int32 × (Nat → Int64) × (Nat → Int64)) : Option ((Int64 × Int32 × Int32 × (Nat → Int64) × (Nat → Int64)) ⊕ (Int64 × Int32 × Int32 × (Nat → Int64) × (Nat → Int64))) := if p1 < x.2.2.1 then (some (.inr (x.1, x.2.1, x.2.2.1, x.2.2.2.1, x.2.2.2.2))) else (ob (wh (s_X5_weather_114 p0 p2 x.1 x.2.2.1 x.2.2.2.1) 5000 (x.2.1, 0, x.2.2.2.2)) (fun r18 => ob (wh (s_X5_weather_233 x.2.2.1 r18.2.2) 5000 (0, x.2.2.2.1)) (fun r19 => some (.inl ((x.1 * 10), r18.1, (x.2.2.1 + 1), r19.2, r18.2.2)))))
def s_X5_weather_65 (x : Int32 × (Nat → Int64)) : Option ((Int32 × (Nat → Int64)) ⊕ (Int32 × (Nat → Int64))) := if 50 ≤ x.1 then (some (.inr (x.1, x.2))) else (chk x.1 50 (some (.inl ((x.1 + 1), (vp_updL x.2 (x.1).toNatClampNeg x.1.toInt64)))))
def f_X5_weather (vbrings : Nat → Int64) (vbringsThen : Nat → Int64) (p0 : Int32) (p1 : Int32) (p2 : Int32) (p3 : Int32) (p4 : Int32) : Option (Int64 × (Nat → Int64) × (Nat → Int64)) := bd (f_X5_in p0.toInt64 (0) (40)) (fun o1 => if o1 = 0 then (some ((-1000000000000000002), vbrings, vbringsThen)) else (bd (f_X5_in p1.toInt64 (0) (8)) (fun o3 => if o3 = 0 then (some ((-1000000000000000002), vbrings, vbringsThen)) else (bd (f_X5_in p2.toInt64 (0) (10)) (fun o5 => if o5 = 0 then (some ((-1000000000000000002), vbrings, vbringsThen)) else (bd (f_X5_in p3.toInt64 (0) (1)) (fun o7 => if o7 = 0 then (some ((-1000000000000000002), vbrings, vbringsThen)) else (bd (f_X5_in p4.toInt64 (0) (1)) (fun o9 => if o9 = 0 then (some ((-1000000000000000002), vbrings, vbringsThen)) else (ob (wh (s_X5_weather_65) 5000 (0, vbrings)) (fun r11 => ob (wh (s_X5_weather_97 p0 p1 p2) 5000 (1, 1, 1, r11.2, vbringsThen)) (fun r12 => if p3 = 1 then (if r12.2.1 = 0 then (some (0, r12.2.2.2.1, r12.2.2.2.2)) else (some (1, r12.2.2.2.1, r12.2.2.2.2))) else (chk p0 50 (ob (f_X5_lowest (r12.2.2.2.1 (p0).toNatClampNeg) r12.1 p4) (fun o15 => some (o15, r12.2.2.2.1, r12.2.2.2.2))))))))))))))))
theorem inX5_weather_X5 : ∀ w ∈ wsX50, w ∈ wsX5_weather := fun w h => List.mem_cons_of_mem _ (List.mem_append_right _ h)
theorem yd_X5_weather : yX5_weather.cls ≠ "java/lang/invoke/MethodHandle" ∧ yX5_weather.cls ≠ "java/lang/invoke/VarHandle" ∧ (parseMethodDescriptor yX5_weather.desc).map (fun d => d.parameters.length) = some 5 := by decide +kernel
abbrev rmX5_weather : Room := { frames := 1, cells := 0, slots := 0, locals := 30 }
set_option maxHeartbeats 4000000 in
set_option maxRecDepth 100000 in
theorem k_X5_weather (l : Launch) (D : va_G) (K : Nat → ClassId) (q : Nat → Nat) (vweight : Nat → Int32) (vkind : Nat → Int32) (vrhymes : Nat → Int32) (vpurse : Nat → Int32) (vhas : Nat → Int32) (vwishes : Nat → Int32) (vwishMany : Int32) (vsightLeft : Nat → Int32) (vsightRight : Nat → Int32) (vsightHow : Nat → Int32) (vsights : Int32) (vpad : Nat → Int32) (vpadMany : Int32) (vact : Nat → Int32) (vwho : Nat → Int32) (vwhich : Nat → Int32) (vwhom : Nat → Int32) (vacts : Int32) (vplace : Int32) (vopenMany : Int32) (vended : Int32) (vspoken : Int32) (vheaviest : Int32) (vheaviestWeight : Int32) (vhad : Nat → Int32) (vbadAct : Int32) (vbadWhy : Int32) (vbrings : Nat → Int64) (vbringsThen : Nat → Int64) (vkept : Nat → Int32) (visKept : Nat → Int32) (vkeptAt : Int32) (visWriting : Int32) (p0 : Int32) (p1 : Int32) (p2 : Int32) (p3 : Int32) (p4 : Int32) (out : Int64 × (Nat → Int64) × (Nat → Int64)) (hf : f_X5_weather vbrings vbringsThen p0 p1 p2 p3 p4 = some out) : kL l D K yX5_weather wsX5_weather rmX5_weather [.ref (q 0), .int p0, .int p1, .int p2, .int p3, .int p4] (mdW K q vweight vkind vrhymes vpurse vhas vwishes vwishMany vsightLeft vsightRight vsightHow vsights vpad vpadMany vact vwho vwhich vwhom vacts vplace vopenMany vended vspoken vheaviest vheaviestWeight vhad vbadAct vbadWhy vbrings vbringsThen vkept visKept vkeptAt visWriting) out.1 (mdW K q vweight vkind vrhymes vpurse vhas vwishes vwishMany vsightLeft vsightRight vsightHow vsights vpad vpadMany vact vwho vwhich vwhom vacts vplace vopenMany vended vspoken vheaviest vheaviestWeight vhad vbadAct vbadWhy out.2.1 out.2.2 vkept visKept vkeptAt visWriting) := by
  refine kL.of (cc := cX5_weather) (maxL := 13) (by decide) rfl (Nat.le_of_ble_eq_true rfl) ?_
  intro p e s m args below meth c A H0 Q ls hx hb hml hown hts hK hN hA hP hD hS hl hret
  have hown : s.vm.findClass RX5 = some m.cls := hown
  have hl : lv_has ls 13 [(0, .ref (q 0)), (1, .int p0), (2, .int p1), (3, .int p2), (4, .int p3), (5, .int p4)] := hl
  generalize hH : H0 = H at hP ⊢
  have hS : va_S A H0 H [] := by rw [← hH]; exact hS
  clear hH
  unfold f_X5_weather at hf
  refine lv_iload_n hx hb dX5_weather_0 rfl (lv_at hl 1 rfl) ?_
  refine lv_i2l (v := p0.toInt64) hx hb dX5_weather_1 rfl ?_
  refine lv_lconst (v := 0) hx hb dX5_weather_2 (by decide) ?_
  refine lv_ldc2 hx hb hown (hts (.constantLong RX5 236 (40)) (List.mem_of_getElem? (i := 1) rfl)) dX5_weather_3 ?_
  obtain ⟨o1, ho1, hf⟩ := bd_el hf
  refine kc0_i (D := D) (va_runS (As := [.long p0.toInt64, .long 0, .long 40]) (rest := []) ⟨hx, hb, hml, hown, hts⟩ ((k_X5_in l D K p0.toInt64 (0) (40) o1 ho1) H.size) (va_cwS 3 hts gX5_weather_X5_in rfl rfl rfl yd_X5_in ⟨Nat.le_of_ble_eq_true rfl, Nat.le_of_ble_eq_true rfl⟩) (kPreS va_P_nil (va_D_nil (A := fun _ => True)) hK hN) rfl rfl hl.1 rfl (lv_room (Nat.le_of_ble_eq_true rfl)) dX5_weather_6 ⟨Nat.le_of_ble_eq_true rfl, Nat.le_of_ble_eq_true rfl⟩) hP hS hA (fun hzo1 H locs hP hS => ?_)
  refine lv_if_eq (tgt := 58) hx hb dX5_weather_9 (by decide) (fun c2 => ?_) (fun c2 => ?_)
  · rw [if_pos c2] at hf
    refine lv_ldc2 hx hb hown (hts (.constantLong RX5 240 (-1000000000000000002)) (List.mem_of_getElem? (i := 4) rfl)) dX5_weather_58 ?_
    obtain rfl := Option.some.inj hf
    exact hret rfl rfl hP hD hS dX5_weather_61
  · rw [if_neg c2] at hf
    refine lv_iload_n hx hb dX5_weather_12 rfl (lv_at hl 2 rfl) ?_
    refine lv_i2l (v := p1.toInt64) hx hb dX5_weather_13 rfl ?_
    refine lv_lconst (v := 0) hx hb dX5_weather_14 (by decide) ?_
    refine lv_ldc2 hx hb hown (hts (.constantLong RX5 198 (8)) (List.mem_of_getElem? (i := 2) rfl)) dX5_weather_15 ?_
    obtain ⟨o3, ho3, hf⟩ := bd_el hf
    refine kc0_i (D := D) (va_runS (As := [.long p1.toInt64, .long 0, .long 8]) (rest := []) ⟨hx, hb, hml, hown, hts⟩ ((k_X5_in l D K p1.toInt64 (0) (8) o3 ho3) H.size) (va_cwS 3 hts gX5_weather_X5_in rfl rfl rfl yd_X5_in ⟨Nat.le_of_ble_eq_true rfl, Nat.le_of_ble_eq_true rfl⟩) (kPreS va_P_nil (va_D_nil (A := fun _ => True)) hK hN) rfl rfl hl.1 rfl (lv_room (Nat.le_of_ble_eq_true rfl)) dX5_weather_18 ⟨Nat.le_of_ble_eq_true rfl, Nat.le_of_ble_eq_true rfl⟩) hP hS hA (fun hzo3 H locs hP hS => ?_)
    refine lv_if_eq (tgt := 58) hx hb dX5_weather_21 (by decide) (fun c4 => ?_) (fun c4 => ?_)
    · rw [if_pos c4] at hf
      refine lv_ldc2 hx hb hown (hts (.constantLong RX5 240 (-1000000000000000002)) (List.mem_of_getElem? (i := 4) rfl)) dX5_weather_58 ?_
      obtain rfl := Option.some.inj hf
      exact hret rfl rfl hP hD hS dX5_weather_61
    · rw [if_neg c4] at hf
      refine lv_iload_n hx hb dX5_weather_24 rfl (lv_at hl 3 rfl) ?_
      refine lv_i2l (v := p2.toInt64) hx hb dX5_weather_25 rfl ?_
      refine lv_lconst (v := 0) hx hb dX5_weather_26 (by decide) ?_
      refine lv_ldc2 hx hb hown (hts (.constantLong RX5 238 (10)) (List.mem_of_getElem? (i := 3) rfl)) dX5_weather_27 ?_
      obtain ⟨o5, ho5, hf⟩ := bd_el hf
      refine kc0_i (D := D) (va_runS (As := [.long p2.toInt64, .long 0, .long 10]) (rest := []) ⟨hx, hb, hml, hown, hts⟩ ((k_X5_in l D K p2.toInt64 (0) (10) o5 ho5) H.size) (va_cwS 3 hts gX5_weather_X5_in rfl rfl rfl yd_X5_in ⟨Nat.le_of_ble_eq_true rfl, Nat.le_of_ble_eq_true rfl⟩) (kPreS va_P_nil (va_D_nil (A := fun _ => True)) hK hN) rfl rfl hl.1 rfl (lv_room (Nat.le_of_ble_eq_true rfl)) dX5_weather_30 ⟨Nat.le_of_ble_eq_true rfl, Nat.le_of_ble_eq_true rfl⟩) hP hS hA (fun hzo5 H locs hP hS => ?_)
      refine lv_if_eq (tgt := 58) hx hb dX5_weather_33 (by decide) (fun c6 => ?_) (fun c6 => ?_)
      · rw [if_pos c6] at hf
        refine lv_ldc2 hx hb hown (hts (.constantLong RX5 240 (-1000000000000000002)) (List.mem_of_getElem? (i := 4) rfl)) dX5_weather_58 ?_
        obtain rfl := Option.some.inj hf
        exact hret rfl rfl hP hD hS dX5_weather_61
      · rw [if_neg c6] at hf
        refine lv_iload hx hb dX5_weather_36 (lv_at hl 4 rfl) ?_
        refine lv_i2l (v := p3.toInt64) hx hb dX5_weather_38 rfl ?_
        refine lv_lconst (v := 0) hx hb dX5_weather_39 (by decide) ?_
        refine lv_lconst (v := 1) hx hb dX5_weather_40 (by decide) ?_
        obtain ⟨o7, ho7, hf⟩ := bd_el hf
        refine kc0_i (D := D) (va_runS (As := [.long p3.toInt64, .long 0, .long 1]) (rest := []) ⟨hx, hb, hml, hown, hts⟩ ((k_X5_in l D K p3.toInt64 (0) (1) o7 ho7) H.size) (va_cwS 3 hts gX5_weather_X5_in rfl rfl rfl yd_X5_in ⟨Nat.le_of_ble_eq_true rfl, Nat.le_of_ble_eq_true rfl⟩) (kPreS va_P_nil (va_D_nil (A := fun _ => True)) hK hN) rfl rfl hl.1 rfl (lv_room (Nat.le_of_ble_eq_true rfl)) dX5_weather_41 ⟨Nat.le_of_ble_eq_true rfl, Nat.le_of_ble_eq_true rfl⟩) hP hS hA (fun hzo7 H locs hP hS => ?_)
        refine lv_if_eq (tgt := 58) hx hb dX5_weather_44 (by decide) (fun c8 => ?_) (fun c8 => ?_)
        · rw [if_pos c8] at hf
          refine lv_ldc2 hx hb hown (hts (.constantLong RX5 240 (-1000000000000000002)) (List.mem_of_getElem? (i := 4) rfl)) dX5_weather_58 ?_
          obtain rfl := Option.some.inj hf
          exact hret rfl rfl hP hD hS dX5_weather_61
        · rw [if_neg c8] at hf
          refine lv_iload hx hb dX5_weather_47 (lv_at hl 5 rfl) ?_
          refine lv_i2l (v := p4.toInt64) hx hb dX5_weather_49 rfl ?_
          refine lv_lconst (v := 0) hx hb dX5_weather_50 (by decide) ?_
          refine lv_lconst (v := 1) hx hb dX5_weather_51 (by decide) ?_
          obtain ⟨o9, ho9, hf⟩ := bd_el hf
          refine kc0_i (D := D) (va_runS (As := [.long p4.toInt64, .long 0, .long 1]) (rest := []) ⟨hx, hb, hml, hown, hts⟩ ((k_X5_in l D K p4.toInt64 (0) (1) o9 ho9) H.size) (va_cwS 3 hts gX5_weather_X5_in rfl rfl rfl yd_X5_in ⟨Nat.le_of_ble_eq_true rfl, Nat.le_of_ble_eq_true rfl⟩) (kPreS va_P_nil (va_D_nil (A := fun _ => True)) hK hN) rfl rfl hl.1 rfl (lv_room (Nat.le_of_ble_eq_true rfl)) dX5_weather_52 ⟨Nat.le_of_ble_eq_true rfl, Nat.le_of_ble_eq_true rfl⟩) hP hS hA (fun hzo9 H locs hP hS => ?_)
          refine lv_if_ne (tgt := 62) hx hb dX5_weather_55 (by decide) (fun c10 => ?_) (fun c10 => ?_)
          · rw [if_neg c10] at hf
            refine lv_iconst (v := 0) hx hb dX5_weather_62 (by decide) ?_
            refine lv_istore (lv' := [(6, .int 0), (0, .ref (q 0)), (1, .int p0), (2, .int p1), (3, .int p2), (4, .int p3), (5, .int p4)]) hx hb dX5_weather_63 hl (by decide) rfl (fun ls hl => ?_)
            obtain ⟨r11, hr11, hf⟩ := ob_el hf
            have post65 : ∀ (e65_l6 : Int32) (e65_brings : Nat → Int64) (H : Heap) (locs : List Loc) (ls : Array Slot), (ob (wh (s_X5_weather_97 p0 p1 p2) 5000 (1, 1, 1, e65_brings, vbringsThen)) (fun r12 => if p3 = 1 then (if r12.2.1 = 0 then (some (0, r12.2.2.2.1, r12.2.2.2.2)) else (some (1, r12.2.2.2.1, r12.2.2.2.2))) else (chk p0 50 (ob (f_X5_lowest (r12.2.2.2.1 (p0).toNatClampNeg) r12.1 p4) (fun o15 => some (o15, r12.2.2.2.1, r12.2.2.2.2)))))) = some out → va_P D vwCl (mdW K q vweight vkind vrhymes vpurse vhas vwishes vwishMany vsightLeft vsightRight vsightHow vsights vpad vpadMany vact vwho vwhich vwhom vacts vplace vopenMany vended vspoken vheaviest vheaviestWeight vhad vbadAct vbadWhy e65_brings vbringsThen vkept visKept vkeptAt visWriting) H → va_D A (mdW K q vweight vkind vrhymes vpurse vhas vwishes vwishMany vsightLeft vsightRight vsightHow vsights vpad vpadMany vact vwho vwhich vwhom vacts vplace vopenMany vended vspoken vheaviest vheaviestWeight vhad vbadAct vbadWhy e65_brings vbringsThen vkept visKept vkeptAt visWriting) → va_S A H0 H locs → lv_has ls 13 [(6, .int e65_l6), (0, .ref (q 0)), (1, .int p0), (2, .int p1), (3, .int p2), (4, .int p3), (5, .int p4)] → W p l e rmX5_weather s m args below meth c H locs 0 0 Q (F0 m 88 ls []) := by
              intro e65_l6 e65_brings H locs ls hf hP hD hS hl
              refine lv_lconst (v := 1) hx hb dX5_weather_88 (by decide) ?_
              refine lv_lstore (lv' := [(6, .long 1), (0, .ref (q 0)), (1, .int p0), (2, .int p1), (3, .int p2), (4, .int p3), (5, .int p4)]) hx hb dX5_weather_89 hl (by decide) rfl (fun ls hl => ?_)
              refine lv_iconst (v := 1) hx hb dX5_weather_91 (by decide) ?_
              refine lv_istore (lv' := [(8, .int 1), (6, .long 1), (0, .ref (q 0)), (1, .int p0), (2, .int p1), (3, .int p2), (4, .int p3), (5, .int p4)]) hx hb dX5_weather_92 hl (by decide) rfl (fun ls hl => ?_)
              refine lv_iconst (v := 1) hx hb dX5_weather_94 (by decide) ?_
              refine lv_istore (lv' := [(9, .int 1), (8, .int 1), (6, .long 1), (0, .ref (q 0)), (1, .int p0), (2, .int p1), (3, .int p2), (4, .int p3), (5, .int p4)]) hx hb dX5_weather_95 hl (by decide) rfl (fun ls hl => ?_)
              obtain ⟨r12, hr12, hf⟩ := ob_el hf
              have post97 : ∀ (e97_l6 : Int64) (e97_l8 : Int32) (e97_l9 : Int32) (e97_brings : Nat → Int64) (e97_bringsThen : Nat → Int64) (H : Heap) (locs : List Loc) (ls : Array Slot), (if p3 = 1 then (if e97_l8 = 0 then (some (0, e97_brings, e97_bringsThen)) else (some (1, e97_brings, e97_bringsThen))) else (chk p0 50 (ob (f_X5_lowest (e97_brings (p0).toNatClampNeg) e97_l6 p4) (fun o15 => some (o15, e97_brings, e97_bringsThen))))) = some out → va_P D vwCl (mdW K q vweight vkind vrhymes vpurse vhas vwishes vwishMany vsightLeft vsightRight vsightHow vsights vpad vpadMany vact vwho vwhich vwhom vacts vplace vopenMany vended vspoken vheaviest vheaviestWeight vhad vbadAct vbadWhy e97_brings e97_bringsThen vkept visKept vkeptAt visWriting) H → va_D A (mdW K q vweight vkind vrhymes vpurse vhas vwishes vwishMany vsightLeft vsightRight vsightHow vsights vpad vpadMany vact vwho vwhich vwhom vacts vplace vopenMany vended vspoken vheaviest vheaviestWeight vhad vbadAct vbadWhy e97_brings e97_bringsThen vkept visKept vkeptAt visWriting) → va_S A H0 H locs → lv_has ls 13 [(9, .int e97_l9), (8, .int e97_l8), (6, .long e97_l6), (0, .ref (q 0)), (1, .int p0), (2, .int p1), (3, .int p2), (4, .int p3), (5, .int p4)] → W p l e rmX5_weather s m args below meth c H locs 0 0 Q (F0 m 269 ls []) := by
                intro e97_l6 e97_l8 e97_l9 e97_brings e97_bringsThen H locs ls hf hP hD hS hl
                refine lv_iload hx hb dX5_weather_269 (lv_at hl 7 rfl) ?_
                refine lv_iconst (v := 1) hx hb dX5_weather_271 (by decide) ?_
                refine lv_icmp_ne (tgt := 288) hx hb dX5_weather_272 (by decide) (fun c13 => ?_) (fun c13 => ?_)
                · rw [if_neg c13] at hf
                  refine lv_aload_n hx hb dX5_weather_288 rfl (lv_at hl 3 rfl) ?_
                  refine va_get (D := D) (ci := 5) (v := .ref (q 16)) (C := RX5) (T := TX5) (N := 33) hx hb hts inX5_weather_X5 hown hK hP 0 rfl rfl 27 (by decide) (hts (.fieldLink RX5 55 "WordScalesModel" "brings" "[J") (List.mem_of_getElem? (i := 5) rfl)) (fun _ h9 => h9) rfl dX5_weather_289 ?_
                  refine lv_iload_n hx hb dX5_weather_292 rfl (lv_at hl 4 rfl) ?_
                  obtain ⟨v14, hf⟩ := chk_el hf
                  refine va_lald (D := D) (f := e97_brings) hx hb hK hP 16 1 rfl rfl v14 dX5_weather_293 ?_
                  refine lv_lload hx hb dX5_weather_294 (lv_at hl 2 rfl) ?_
                  refine lv_iload hx hb dX5_weather_296 (lv_at hl 8 rfl) ?_
                  obtain ⟨o15, ho15, hf⟩ := ob_el hf
                  refine kc0_l (D := D) (va_runS (As := [.long (e97_brings (p0).toNatClampNeg), .long e97_l6, .int p4]) (rest := []) ⟨hx, hb, hml, hown, hts⟩ ((k_X5_lowest l D K (e97_brings (p0).toNatClampNeg) e97_l6 p4 o15 ho15) H.size) (va_cwS 3 hts gX5_weather_X5_lowest rfl rfl rfl yd_X5_lowest ⟨Nat.le_of_ble_eq_true rfl, Nat.le_of_ble_eq_true rfl⟩) (kPreS va_P_nil (va_D_nil (A := fun _ => True)) hK hN) rfl rfl hl.1 rfl (lv_room (Nat.le_of_ble_eq_true rfl)) dX5_weather_298 ⟨Nat.le_of_ble_eq_true rfl, Nat.le_of_ble_eq_true rfl⟩) hP hS hA (fun H locs hP hS => ?_)
                  obtain rfl := Option.some.inj hf
                  exact hret rfl rfl hP hD hS dX5_weather_301
                · rw [if_pos c13] at hf
                  refine lv_iload hx hb dX5_weather_275 (lv_at hl 1 rfl) ?_
                  refine lv_if_eq (tgt := 284) hx hb dX5_weather_277 (by decide) (fun c16 => ?_) (fun c16 => ?_)
                  · rw [if_pos c16] at hf
                    refine lv_lconst (v := 0) hx hb dX5_weather_284 (by decide) ?_
                    refine lv_goto (tgt := 301) hx hb dX5_weather_285 (by decide) ?_
                    obtain rfl := Option.some.inj hf
                    exact hret rfl rfl hP hD hS dX5_weather_301
                  · rw [if_neg c16] at hf
                    refine lv_lconst (v := 1) hx hb dX5_weather_280 (by decide) ?_
                    refine lv_goto (tgt := 301) hx hb dX5_weather_281 (by decide) ?_
                    obtain rfl := Option.some.inj hf
                    exact hret rfl rfl hP hD hS dX5_weather_301
              have lp97 : ∀ (fu : Nat) (x97_l6 : Int64) (x97_l8 : Int32) (x97_l9 : Int32) (x97_brings : Nat → Int64) (x97_bringsThen : Nat → Int64) (H : Heap) (locs : List Loc) (ls : Array Slot), wh (s_X5_weather_97 p0 p1 p2) fu (x97_l6, x97_l8, x97_l9, x97_brings, x97_bringsThen) = some r12 → va_P D vwCl (mdW K q vweight vkind vrhymes vpurse vhas vwishes vwishMany vsightLeft vsightRight vsightHow vsights vpad vpadMany vact vwho vwhich vwhom vacts vplace vopenMany vended vspoken vheaviest vheaviestWeight vhad vbadAct vbadWhy x97_brings x97_bringsThen vkept visKept vkeptAt visWriting) H → va_D A (mdW K q vweight vkind vrhymes vpurse vhas vwishes vwishMany vsightLeft vsightRight vsightHow vsights vpad vpadMany vact vwho vwhich vwhom vacts vplace vopenMany vended vspoken vheaviest vheaviestWeight vhad vbadAct vbadWhy x97_brings x97_bringsThen vkept visKept vkeptAt visWriting) → va_S A H0 H locs → lv_has ls 13 [(9, .int x97_l9), (8, .int x97_l8), (6, .long x97_l6), (0, .ref (q 0)), (1, .int p0), (2, .int p1), (3, .int p2), (4, .int p3), (5, .int p4)] → W p l e rmX5_weather s m args below meth c H locs 0 0 Q (F0 m 97 ls []) := by
                intro fu
                induction fu with
                | zero => intro x97_l6 x97_l8 x97_l9 x97_brings x97_bringsThen H locs ls hw97; cases hw97
                | succ fu ih97 =>
                  intro x97_l6 x97_l8 x97_l9 x97_brings x97_bringsThen H locs ls hw97 hP hD hS hl
                  obtain ⟨o97_, hs97, hw97⟩ := wh_el hw97
                  unfold s_X5_weather_97 at hs97
                  dsimp only at hs97
                  refine lv_iload hx hb dX5_weather_97 (lv_at hl 0 rfl) ?_
                  refine lv_iload_n hx hb dX5_weather_99 rfl (lv_at hl 5 rfl) ?_
                  refine lv_icmp_gt (tgt := 269) hx hb dX5_weather_100 (by decide) (fun c17 => ?_) (fun c17 => ?_)
                  · rw [if_pos c17] at hs97
                    obtain rfl := Option.some.inj hs97
                    have e9 := Option.some.inj hw97
                    rw [← e9] at hf
                    exact post97 _ _ _ _ _ _ _ _ hf hP hD hS (lv_sub hl [0, 1, 2, 3, 4, 5, 6, 7, 8] rfl)
                  · rw [if_neg c17] at hs97
                    refine lv_lload hx hb dX5_weather_103 (lv_at hl 2 rfl) ?_
                    refine lv_ldc2 hx hb hown (hts (.constantLong RX5 238 (10)) (List.mem_of_getElem? (i := 3) rfl)) dX5_weather_105 ?_
                    refine lv_lmul hx hb dX5_weather_108 ?_
                    refine lv_lstore (lv' := [(6, .long (x97_l6 * 10)), (9, .int x97_l9), (8, .int x97_l8), (0, .ref (q 0)), (1, .int p0), (2, .int p1), (3, .int p2), (4, .int p3), (5, .int p4)]) hx hb dX5_weather_109 hl (by decide) rfl (fun ls hl => ?_)
                    refine lv_iconst (v := 0) hx hb dX5_weather_111 (by decide) ?_
                    refine lv_istore (lv' := [(10, .int 0), (6, .long (x97_l6 * 10)), (9, .int x97_l9), (8, .int x97_l8), (0, .ref (q 0)), (1, .int p0), (2, .int p1), (3, .int p2), (4, .int p3), (5, .int p4)]) hx hb dX5_weather_112 hl (by decide) rfl (fun ls hl => ?_)
                    obtain ⟨r18, hr18, hs97⟩ := ob_el hs97
                    have post114 : ∀ (e114_l8 : Int32) (e114_l10 : Int32) (e114_bringsThen : Nat → Int64) (H : Heap) (locs : List Loc) (ls : Array Slot), (ob (wh (s_X5_weather_233 x97_l9 e114_bringsThen) 5000 (0, x97_brings)) (fun r19 => some (.inl ((x97_l6 * 10), e114_l8, (x97_l9 + 1), r19.2, e114_bringsThen)))) = some o97_ → va_P D vwCl (mdW K q vweight vkind vrhymes vpurse vhas vwishes vwishMany vsightLeft vsightRight vsightHow vsights vpad vpadMany vact vwho vwhich vwhom vacts vplace vopenMany vended vspoken vheaviest vheaviestWeight vhad vbadAct vbadWhy x97_brings e114_bringsThen vkept visKept vkeptAt visWriting) H → va_D A (mdW K q vweight vkind vrhymes vpurse vhas vwishes vwishMany vsightLeft vsightRight vsightHow vsights vpad vpadMany vact vwho vwhich vwhom vacts vplace vopenMany vended vspoken vheaviest vheaviestWeight vhad vbadAct vbadWhy x97_brings e114_bringsThen vkept visKept vkeptAt visWriting) → va_S A H0 H locs → lv_has ls 13 [(10, .int e114_l10), (6, .long (x97_l6 * 10)), (9, .int x97_l9), (8, .int e114_l8), (0, .ref (q 0)), (1, .int p0), (2, .int p1), (3, .int p2), (4, .int p3), (5, .int p4)] → W p l e rmX5_weather s m args below meth c H locs 0 0 Q (F0 m 230 ls []) := by
                      intro e114_l8 e114_l10 e114_bringsThen H locs ls hs97 hP hD hS hl
                      refine lv_iconst (v := 0) hx hb dX5_weather_230 (by decide) ?_
                      refine lv_istore (lv' := [(10, .int 0), (6, .long (x97_l6 * 10)), (9, .int x97_l9), (8, .int e114_l8), (0, .ref (q 0)), (1, .int p0), (2, .int p1), (3, .int p2), (4, .int p3), (5, .int p4)]) hx hb dX5_weather_231 hl (by decide) rfl (fun ls hl => ?_)
                      obtain ⟨r19, hr19, hs97⟩ := ob_el hs97
                      have post233 : ∀ (e233_l10 : Int32) (e233_brings : Nat → Int64) (H : Heap) (locs : List Loc) (ls : Array Slot), (some (.inl ((x97_l6 * 10), e114_l8, (x97_l9 + 1), e233_brings, e114_bringsThen))) = some o97_ → va_P D vwCl (mdW K q vweight vkind vrhymes vpurse vhas vwishes vwishMany vsightLeft vsightRight vsightHow vsights vpad vpadMany vact vwho vwhich vwhom vacts vplace vopenMany vended vspoken vheaviest vheaviestWeight vhad vbadAct vbadWhy e233_brings e114_bringsThen vkept visKept vkeptAt visWriting) H → va_D A (mdW K q vweight vkind vrhymes vpurse vhas vwishes vwishMany vsightLeft vsightRight vsightHow vsights vpad vpadMany vact vwho vwhich vwhom vacts vplace vopenMany vended vspoken vheaviest vheaviestWeight vhad vbadAct vbadWhy e233_brings e114_bringsThen vkept visKept vkeptAt visWriting) → va_S A H0 H locs → lv_has ls 13 [(10, .int e233_l10), (6, .long (x97_l6 * 10)), (9, .int x97_l9), (8, .int e114_l8), (0, .ref (q 0)), (1, .int p0), (2, .int p1), (3, .int p2), (4, .int p3), (5, .int p4)] → W p l e rmX5_weather s m args below meth c H locs 0 0 Q (F0 m 263 ls []) := by
                        intro e233_l10 e233_brings H locs ls hs97 hP hD hS hl
                        refine lv_iinc (v := (x97_l9 + 1)) (lv' := [(9, .int (x97_l9 + 1)), (10, .int e233_l10), (6, .long (x97_l6 * 10)), (8, .int e114_l8), (0, .ref (q 0)), (1, .int p0), (2, .int p1), (3, .int p2), (4, .int p3), (5, .int p4)]) hx hb dX5_weather_263 hl (k := 2) rfl (by rfl) (by decide) rfl (fun ls hl => ?_)
                        refine lv_goto (tgt := 97) hx hb dX5_weather_266 (by decide) ?_
                        obtain rfl := Option.some.inj hs97
                        exact ih97 _ _ _ _ _ _ _ _ hw97 hP hD hS (lv_sub hl [0, 3, 2, 4, 5, 6, 7, 8, 9] rfl)
                      have lp233 : ∀ (fu : Nat) (x233_l10 : Int32) (x233_brings : Nat → Int64) (H : Heap) (locs : List Loc) (ls : Array Slot), wh (s_X5_weather_233 x97_l9 e114_bringsThen) fu (x233_l10, x233_brings) = some r19 → va_P D vwCl (mdW K q vweight vkind vrhymes vpurse vhas vwishes vwishMany vsightLeft vsightRight vsightHow vsights vpad vpadMany vact vwho vwhich vwhom vacts vplace vopenMany vended vspoken vheaviest vheaviestWeight vhad vbadAct vbadWhy x233_brings e114_bringsThen vkept visKept vkeptAt visWriting) H → va_D A (mdW K q vweight vkind vrhymes vpurse vhas vwishes vwishMany vsightLeft vsightRight vsightHow vsights vpad vpadMany vact vwho vwhich vwhom vacts vplace vopenMany vended vspoken vheaviest vheaviestWeight vhad vbadAct vbadWhy x233_brings e114_bringsThen vkept visKept vkeptAt visWriting) → va_S A H0 H locs → lv_has ls 13 [(10, .int x233_l10), (6, .long (x97_l6 * 10)), (9, .int x97_l9), (8, .int e114_l8), (0, .ref (q 0)), (1, .int p0), (2, .int p1), (3, .int p2), (4, .int p3), (5, .int p4)] → W p l e rmX5_weather s m args below meth c H locs 0 0 Q (F0 m 233 ls []) := by
                        intro fu
                        induction fu with
                        | zero => intro x233_l10 x233_brings H locs ls hw233; cases hw233
                        | succ fu ih233 =>
                          intro x233_l10 x233_brings H locs ls hw233 hP hD hS hl
                          obtain ⟨o233_, hs233, hw233⟩ := wh_el hw233
                          unfold s_X5_weather_233 at hs233
                          dsimp only at hs233
                          refine lv_iload hx hb dX5_weather_233 (lv_at hl 0 rfl) ?_
                          refine lv_bipush (v := 48) hx hb dX5_weather_235 (by decide) ?_
                          refine lv_iload hx hb dX5_weather_237 (lv_at hl 2 rfl) ?_
                          refine lv_isub hx hb dX5_weather_239 ?_
                          refine lv_icmp_gt (tgt := 263) hx hb dX5_weather_240 (by decide) (fun c20 => ?_) (fun c20 => ?_)
                          · rw [if_pos c20] at hs233
                            obtain rfl := Option.some.inj hs233
                            have e9 := Option.some.inj hw233
                            rw [← e9] at hs97
                            exact post233 _ _ _ _ _ hs97 hP hD hS (lv_sub hl [0, 1, 2, 3, 4, 5, 6, 7, 8, 9] rfl)
                          · rw [if_neg c20] at hs233
                            refine lv_aload_n hx hb dX5_weather_243 rfl (lv_at hl 4 rfl) ?_
                            refine va_get (D := D) (ci := 5) (v := .ref (q 16)) (C := RX5) (T := TX5) (N := 33) hx hb hts inX5_weather_X5 hown hK hP 0 rfl rfl 27 (by decide) (hts (.fieldLink RX5 55 "WordScalesModel" "brings" "[J") (List.mem_of_getElem? (i := 5) rfl)) (fun _ h9 => h9) rfl dX5_weather_244 ?_
                            refine lv_iload hx hb dX5_weather_247 (lv_at hl 0 rfl) ?_
                            refine lv_aload_n hx hb dX5_weather_249 rfl (lv_at hl 4 rfl) ?_
                            refine va_get (D := D) (ci := 5) (v := .ref (q 17)) (C := RX5) (T := TX5) (N := 33) hx hb hts inX5_weather_X5 hown hK hP 0 rfl rfl 28 (by decide) (hts (.fieldLink RX5 59 "WordScalesModel" "bringsThen" "[J") (List.mem_of_getElem? (i := 6) rfl)) (fun _ h9 => h9) rfl dX5_weather_250 ?_
                            refine lv_iload hx hb dX5_weather_253 (lv_at hl 0 rfl) ?_
                            obtain ⟨v21, hs233⟩ := chk_el hs233
                            refine va_lald (D := D) (f := e114_bringsThen) hx hb hK hP 17 1 rfl rfl v21 dX5_weather_255 ?_
                            refine va_last (D := D) (f := x233_brings) hx hb hK hP hD hS 16 1 rfl rfl v21 dX5_weather_256 (fun H locs hP hD hS => ?_)
                            have hP : va_P D vwCl (mdW K q vweight vkind vrhymes vpurse vhas vwishes vwishMany vsightLeft vsightRight vsightHow vsights vpad vpadMany vact vwho vwhich vwhom vacts vplace vopenMany vended vspoken vheaviest vheaviestWeight vhad vbadAct vbadWhy (vp_updL x233_brings (x233_l10).toNatClampNeg (e114_bringsThen (x233_l10).toNatClampNeg)) e114_bringsThen vkept visKept vkeptAt visWriting) H := hP
                            have hD : va_D A (mdW K q vweight vkind vrhymes vpurse vhas vwishes vwishMany vsightLeft vsightRight vsightHow vsights vpad vpadMany vact vwho vwhich vwhom vacts vplace vopenMany vended vspoken vheaviest vheaviestWeight vhad vbadAct vbadWhy (vp_updL x233_brings (x233_l10).toNatClampNeg (e114_bringsThen (x233_l10).toNatClampNeg)) e114_bringsThen vkept visKept vkeptAt visWriting) := hD
                            refine lv_iinc (v := (x233_l10 + 1)) (lv' := [(10, .int (x233_l10 + 1)), (6, .long (x97_l6 * 10)), (9, .int x97_l9), (8, .int e114_l8), (0, .ref (q 0)), (1, .int p0), (2, .int p1), (3, .int p2), (4, .int p3), (5, .int p4)]) hx hb dX5_weather_257 hl (k := 0) rfl (by rfl) (by decide) rfl (fun ls hl => ?_)
                            refine lv_goto (tgt := 233) hx hb dX5_weather_260 (by decide) ?_
                            obtain rfl := Option.some.inj hs233
                            exact ih233 _ _ _ _ _ hw233 hP hD hS (lv_sub hl [0, 1, 2, 3, 4, 5, 6, 7, 8, 9] rfl)
                      exact lp233 5000 _ _ _ _ _ hr19 hP hD hS (lv_sub hl [0, 1, 2, 3, 4, 5, 6, 7, 8, 9] rfl)
                    have lp114 : ∀ (fu : Nat) (x114_l8 : Int32) (x114_l10 : Int32) (x114_bringsThen : Nat → Int64) (H : Heap) (locs : List Loc) (ls : Array Slot), wh (s_X5_weather_114 p0 p2 x97_l6 x97_l9 x97_brings) fu (x114_l8, x114_l10, x114_bringsThen) = some r18 → va_P D vwCl (mdW K q vweight vkind vrhymes vpurse vhas vwishes vwishMany vsightLeft vsightRight vsightHow vsights vpad vpadMany vact vwho vwhich vwhom vacts vplace vopenMany vended vspoken vheaviest vheaviestWeight vhad vbadAct vbadWhy x97_brings x114_bringsThen vkept visKept vkeptAt visWriting) H → va_D A (mdW K q vweight vkind vrhymes vpurse vhas vwishes vwishMany vsightLeft vsightRight vsightHow vsights vpad vpadMany vact vwho vwhich vwhom vacts vplace vopenMany vended vspoken vheaviest vheaviestWeight vhad vbadAct vbadWhy x97_brings x114_bringsThen vkept visKept vkeptAt visWriting) → va_S A H0 H locs → lv_has ls 13 [(10, .int x114_l10), (6, .long (x97_l6 * 10)), (9, .int x97_l9), (8, .int x114_l8), (0, .ref (q 0)), (1, .int p0), (2, .int p1), (3, .int p2), (4, .int p3), (5, .int p4)] → W p l e rmX5_weather s m args below meth c H locs 0 0 Q (F0 m 114 ls []) := by
                      intro fu
                      induction fu with
                      | zero => intro x114_l8 x114_l10 x114_bringsThen H locs ls hw114; cases hw114
                      | succ fu ih114 =>
                        intro x114_l8 x114_l10 x114_bringsThen H locs ls hw114 hP hD hS hl
                        obtain ⟨o114_, hs114, hw114⟩ := wh_el hw114
                        unfold s_X5_weather_114 at hs114
                        dsimp only at hs114
                        refine lv_iload hx hb dX5_weather_114 (lv_at hl 0 rfl) ?_
                        refine lv_bipush (v := 48) hx hb dX5_weather_116 (by decide) ?_
                        refine lv_iload hx hb dX5_weather_118 (lv_at hl 2 rfl) ?_
                        refine lv_isub hx hb dX5_weather_120 ?_
                        refine lv_icmp_gt (tgt := 230) hx hb dX5_weather_121 (by decide) (fun c22 => ?_) (fun c22 => ?_)
                        · rw [if_pos c22] at hs114
                          obtain rfl := Option.some.inj hs114
                          have e9 := Option.some.inj hw114
                          rw [← e9] at hs97
                          exact post114 _ _ _ _ _ _ hs97 hP hD hS (lv_sub hl [0, 1, 2, 3, 4, 5, 6, 7, 8, 9] rfl)
                        · rw [if_neg c22] at hs114
                          refine lv_iload_n hx hb dX5_weather_124 rfl (lv_at hl 7 rfl) ?_
                          refine lv_i2l (v := p2.toInt64) hx hb dX5_weather_125 rfl ?_
                          refine lv_aload_n hx hb dX5_weather_126 rfl (lv_at hl 4 rfl) ?_
                          refine va_get (D := D) (ci := 5) (v := .ref (q 16)) (C := RX5) (T := TX5) (N := 33) hx hb hts inX5_weather_X5 hown hK hP 0 rfl rfl 27 (by decide) (hts (.fieldLink RX5 55 "WordScalesModel" "brings" "[J") (List.mem_of_getElem? (i := 5) rfl)) (fun _ h9 => h9) rfl dX5_weather_127 ?_
                          refine lv_iload hx hb dX5_weather_130 (lv_at hl 0 rfl) ?_
                          refine lv_iconst (v := 1) hx hb dX5_weather_132 (by decide) ?_
                          refine lv_iadd hx hb dX5_weather_133 ?_
                          obtain ⟨v23, hs114⟩ := chk_el hs114
                          refine va_lald (D := D) (f := x97_brings) hx hb hK hP 16 1 rfl rfl v23 dX5_weather_134 ?_
                          refine lv_lmul hx hb dX5_weather_135 ?_
                          refine lv_ldc2 hx hb hown (hts (.constantLong RX5 238 (10)) (List.mem_of_getElem? (i := 3) rfl)) dX5_weather_136 ?_
                          refine lv_iload_n hx hb dX5_weather_139 rfl (lv_at hl 7 rfl) ?_
                          refine lv_i2l (v := p2.toInt64) hx hb dX5_weather_140 rfl ?_
                          refine lv_lsub hx hb dX5_weather_141 ?_
                          refine lv_aload_n hx hb dX5_weather_142 rfl (lv_at hl 4 rfl) ?_
                          refine va_get (D := D) (ci := 5) (v := .ref (q 16)) (C := RX5) (T := TX5) (N := 33) hx hb hts inX5_weather_X5 hown hK hP 0 rfl rfl 27 (by decide) (hts (.fieldLink RX5 55 "WordScalesModel" "brings" "[J") (List.mem_of_getElem? (i := 5) rfl)) (fun _ h9 => h9) rfl dX5_weather_143 ?_
                          refine lv_iload hx hb dX5_weather_146 (lv_at hl 0 rfl) ?_
                          refine lv_if_le (tgt := 158) hx hb dX5_weather_148 (by decide) (fun c24 => ?_) (fun c24 => ?_)
                          · rw [if_pos c24] at hs114
                            refine lv_iconst (v := 0) hx hb dX5_weather_158 (by decide) ?_
                            refine va_lald (D := D) (f := x97_brings) hx hb hK hP 16 1 rfl rfl (vp_in_nI (n := 0) (N := 50) (by decide) (by decide)) dX5_weather_159 ?_
                            refine lv_lmul hx hb dX5_weather_160 ?_
                            refine lv_ladd hx hb dX5_weather_161 ?_
                            refine lv_lstore (lv' := [(11, .long ((p2.toInt64 * (x97_brings ((x114_l10 + 1)).toNatClampNeg)) + ((10 - p2.toInt64) * (x97_brings (0 : Int32).toNatClampNeg)))), (10, .int x114_l10), (6, .long (x97_l6 * 10)), (9, .int x97_l9), (8, .int x114_l8), (0, .ref (q 0)), (1, .int p0), (2, .int p1), (3, .int p2), (4, .int p3), (5, .int p4)]) hx hb dX5_weather_162 hl (by decide) rfl (fun ls hl => ?_)
                            refine lv_iload hx hb dX5_weather_164 (lv_at hl 1 rfl) ?_
                            refine lv_iload_n hx hb dX5_weather_166 rfl (lv_at hl 6 rfl) ?_
                            refine lv_icmp_ne (tgt := 190) hx hb dX5_weather_167 (by decide) (fun c25 => ?_) (fun c25 => ?_)
                            · rw [if_neg c25] at hs114
                              refine lv_iload hx hb dX5_weather_190 (lv_at hl 4 rfl) ?_
                              refine lv_istore (lv' := [(8, .int x114_l8), (11, .long ((p2.toInt64 * (x97_brings ((x114_l10 + 1)).toNatClampNeg)) + ((10 - p2.toInt64) * (x97_brings (0 : Int32).toNatClampNeg)))), (10, .int x114_l10), (6, .long (x97_l6 * 10)), (9, .int x97_l9), (0, .ref (q 0)), (1, .int p0), (2, .int p1), (3, .int p2), (4, .int p3), (5, .int p4)]) hx hb dX5_weather_192 hl (by decide) rfl (fun ls hl => ?_)
                              refine lv_aload_n hx hb dX5_weather_194 rfl (lv_at hl 5 rfl) ?_
                              refine va_get (D := D) (ci := 5) (v := .ref (q 17)) (C := RX5) (T := TX5) (N := 33) hx hb hts inX5_weather_X5 hown hK hP 0 rfl rfl 28 (by decide) (hts (.fieldLink RX5 59 "WordScalesModel" "bringsThen" "[J") (List.mem_of_getElem? (i := 6) rfl)) (fun _ h9 => h9) rfl dX5_weather_195 ?_
                              refine lv_iload hx hb dX5_weather_198 (lv_at hl 2 rfl) ?_
                              refine lv_iload hx hb dX5_weather_200 (lv_at hl 2 rfl) ?_
                              refine lv_i2l (v := x114_l10.toInt64) hx hb dX5_weather_202 rfl ?_
                              refine lv_lload hx hb dX5_weather_203 (lv_at hl 3 rfl) ?_
                              refine lv_lmul hx hb dX5_weather_205 ?_
                              refine lv_lload hx hb dX5_weather_206 (lv_at hl 1 rfl) ?_
                              refine W.lcmp hx hb dX5_weather_208 ?_
                              refine lv_if_lt (tgt := 221) hx hb dX5_weather_209 (by decide) (fun c26 => ?_) (fun c26 => ?_)
                              · rw [if_pos c26] at hs114
                                refine lv_lload hx hb dX5_weather_221 (lv_at hl 1 rfl) ?_
                                obtain ⟨v27, hs114⟩ := chk_el hs114
                                refine va_last (D := D) (f := x114_bringsThen) hx hb hK hP hD hS 17 1 rfl rfl v27 dX5_weather_223 (fun H locs hP hD hS => ?_)
                                have hP : va_P D vwCl (mdW K q vweight vkind vrhymes vpurse vhas vwishes vwishMany vsightLeft vsightRight vsightHow vsights vpad vpadMany vact vwho vwhich vwhom vacts vplace vopenMany vended vspoken vheaviest vheaviestWeight vhad vbadAct vbadWhy x97_brings (vp_updL x114_bringsThen (x114_l10).toNatClampNeg ((p2.toInt64 * (x97_brings ((x114_l10 + 1)).toNatClampNeg)) + ((10 - p2.toInt64) * (x97_brings (0 : Int32).toNatClampNeg)))) vkept visKept vkeptAt visWriting) H := hP
                                have hD : va_D A (mdW K q vweight vkind vrhymes vpurse vhas vwishes vwishMany vsightLeft vsightRight vsightHow vsights vpad vpadMany vact vwho vwhich vwhom vacts vplace vopenMany vended vspoken vheaviest vheaviestWeight vhad vbadAct vbadWhy x97_brings (vp_updL x114_bringsThen (x114_l10).toNatClampNeg ((p2.toInt64 * (x97_brings ((x114_l10 + 1)).toNatClampNeg)) + ((10 - p2.toInt64) * (x97_brings (0 : Int32).toNatClampNeg)))) vkept visKept vkeptAt visWriting) := hD
                                refine lv_iinc (v := (x114_l10 + 1)) (lv' := [(10, .int (x114_l10 + 1)), (8, .int x114_l8), (11, .long ((p2.toInt64 * (x97_brings ((x114_l10 + 1)).toNatClampNeg)) + ((10 - p2.toInt64) * (x97_brings (0 : Int32).toNatClampNeg)))), (6, .long (x97_l6 * 10)), (9, .int x97_l9), (0, .ref (q 0)), (1, .int p0), (2, .int p1), (3, .int p2), (4, .int p3), (5, .int p4)]) hx hb dX5_weather_224 hl (k := 2) rfl (by rfl) (by decide) rfl (fun ls hl => ?_)
                                refine lv_goto (tgt := 114) hx hb dX5_weather_227 (by decide) ?_
                                obtain rfl := Option.some.inj hs114
                                exact ih114 _ _ _ _ _ _ hw114 hP hD hS (lv_sub hl [0, 3, 4, 1, 5, 6, 7, 8, 9, 10] rfl)
                              · rw [if_neg c26] at hs114
                                refine lv_iload hx hb dX5_weather_212 (lv_at hl 2 rfl) ?_
                                refine lv_i2l (v := x114_l10.toInt64) hx hb dX5_weather_214 rfl ?_
                                refine lv_lload hx hb dX5_weather_215 (lv_at hl 3 rfl) ?_
                                refine lv_lmul hx hb dX5_weather_217 ?_
                                refine lv_goto (tgt := 223) hx hb dX5_weather_218 (by decide) ?_
                                obtain ⟨v28, hs114⟩ := chk_el hs114
                                refine va_last (D := D) (f := x114_bringsThen) hx hb hK hP hD hS 17 1 rfl rfl v28 dX5_weather_223 (fun H locs hP hD hS => ?_)
                                have hP : va_P D vwCl (mdW K q vweight vkind vrhymes vpurse vhas vwishes vwishMany vsightLeft vsightRight vsightHow vsights vpad vpadMany vact vwho vwhich vwhom vacts vplace vopenMany vended vspoken vheaviest vheaviestWeight vhad vbadAct vbadWhy x97_brings (vp_updL x114_bringsThen (x114_l10).toNatClampNeg (x114_l10.toInt64 * (x97_l6 * 10))) vkept visKept vkeptAt visWriting) H := hP
                                have hD : va_D A (mdW K q vweight vkind vrhymes vpurse vhas vwishes vwishMany vsightLeft vsightRight vsightHow vsights vpad vpadMany vact vwho vwhich vwhom vacts vplace vopenMany vended vspoken vheaviest vheaviestWeight vhad vbadAct vbadWhy x97_brings (vp_updL x114_bringsThen (x114_l10).toNatClampNeg (x114_l10.toInt64 * (x97_l6 * 10))) vkept visKept vkeptAt visWriting) := hD
                                refine lv_iinc (v := (x114_l10 + 1)) (lv' := [(10, .int (x114_l10 + 1)), (8, .int x114_l8), (11, .long ((p2.toInt64 * (x97_brings ((x114_l10 + 1)).toNatClampNeg)) + ((10 - p2.toInt64) * (x97_brings (0 : Int32).toNatClampNeg)))), (6, .long (x97_l6 * 10)), (9, .int x97_l9), (0, .ref (q 0)), (1, .int p0), (2, .int p1), (3, .int p2), (4, .int p3), (5, .int p4)]) hx hb dX5_weather_224 hl (k := 2) rfl (by rfl) (by decide) rfl (fun ls hl => ?_)
                                refine lv_goto (tgt := 114) hx hb dX5_weather_227 (by decide) ?_
                                obtain rfl := Option.some.inj hs114
                                exact ih114 _ _ _ _ _ _ hw114 hP hD hS (lv_sub hl [0, 3, 4, 1, 5, 6, 7, 8, 9, 10] rfl)
                            · rw [if_pos c25] at hs114
                              refine lv_iload hx hb dX5_weather_170 (lv_at hl 1 rfl) ?_
                              refine lv_i2l (v := x114_l10.toInt64) hx hb dX5_weather_172 rfl ?_
                              refine lv_lload hx hb dX5_weather_173 (lv_at hl 2 rfl) ?_
                              refine lv_lmul hx hb dX5_weather_175 ?_
                              refine lv_lload hx hb dX5_weather_176 (lv_at hl 0 rfl) ?_
                              refine W.lcmp hx hb dX5_weather_178 ?_
                              refine lv_if_lt (tgt := 186) hx hb dX5_weather_179 (by decide) (fun c29 => ?_) (fun c29 => ?_)
                              · rw [if_pos c29] at hs114
                                refine lv_iconst (v := 0) hx hb dX5_weather_186 (by decide) ?_
                                refine lv_goto (tgt := 192) hx hb dX5_weather_187 (by decide) ?_
                                refine lv_istore (lv' := [(8, .int 0), (11, .long ((p2.toInt64 * (x97_brings ((x114_l10 + 1)).toNatClampNeg)) + ((10 - p2.toInt64) * (x97_brings (0 : Int32).toNatClampNeg)))), (10, .int x114_l10), (6, .long (x97_l6 * 10)), (9, .int x97_l9), (0, .ref (q 0)), (1, .int p0), (2, .int p1), (3, .int p2), (4, .int p3), (5, .int p4)]) hx hb dX5_weather_192 hl (by decide) rfl (fun ls hl => ?_)
                                refine lv_aload_n hx hb dX5_weather_194 rfl (lv_at hl 5 rfl) ?_
                                refine va_get (D := D) (ci := 5) (v := .ref (q 17)) (C := RX5) (T := TX5) (N := 33) hx hb hts inX5_weather_X5 hown hK hP 0 rfl rfl 28 (by decide) (hts (.fieldLink RX5 59 "WordScalesModel" "bringsThen" "[J") (List.mem_of_getElem? (i := 6) rfl)) (fun _ h9 => h9) rfl dX5_weather_195 ?_
                                refine lv_iload hx hb dX5_weather_198 (lv_at hl 2 rfl) ?_
                                refine lv_iload hx hb dX5_weather_200 (lv_at hl 2 rfl) ?_
                                refine lv_i2l (v := x114_l10.toInt64) hx hb dX5_weather_202 rfl ?_
                                refine lv_lload hx hb dX5_weather_203 (lv_at hl 3 rfl) ?_
                                refine lv_lmul hx hb dX5_weather_205 ?_
                                refine lv_lload hx hb dX5_weather_206 (lv_at hl 1 rfl) ?_
                                refine W.lcmp hx hb dX5_weather_208 ?_
                                refine lv_if_lt (tgt := 221) hx hb dX5_weather_209 (by decide) (fun c30 => ?_) (fun c30 => ?_)
                                · skip
                                  refine lv_lload hx hb dX5_weather_221 (lv_at hl 1 rfl) ?_
                                  obtain ⟨v31, hs114⟩ := chk_el hs114
                                  refine va_last (D := D) (f := x114_bringsThen) hx hb hK hP hD hS 17 1 rfl rfl v31 dX5_weather_223 (fun H locs hP hD hS => ?_)
                                  have hP : va_P D vwCl (mdW K q vweight vkind vrhymes vpurse vhas vwishes vwishMany vsightLeft vsightRight vsightHow vsights vpad vpadMany vact vwho vwhich vwhom vacts vplace vopenMany vended vspoken vheaviest vheaviestWeight vhad vbadAct vbadWhy x97_brings (vp_updL x114_bringsThen (x114_l10).toNatClampNeg ((p2.toInt64 * (x97_brings ((x114_l10 + 1)).toNatClampNeg)) + ((10 - p2.toInt64) * (x97_brings (0 : Int32).toNatClampNeg)))) vkept visKept vkeptAt visWriting) H := hP
                                  have hD : va_D A (mdW K q vweight vkind vrhymes vpurse vhas vwishes vwishMany vsightLeft vsightRight vsightHow vsights vpad vpadMany vact vwho vwhich vwhom vacts vplace vopenMany vended vspoken vheaviest vheaviestWeight vhad vbadAct vbadWhy x97_brings (vp_updL x114_bringsThen (x114_l10).toNatClampNeg ((p2.toInt64 * (x97_brings ((x114_l10 + 1)).toNatClampNeg)) + ((10 - p2.toInt64) * (x97_brings (0 : Int32).toNatClampNeg)))) vkept visKept vkeptAt visWriting) := hD
                                  refine lv_iinc (v := (x114_l10 + 1)) (lv' := [(10, .int (x114_l10 + 1)), (8, .int 0), (11, .long ((p2.toInt64 * (x97_brings ((x114_l10 + 1)).toNatClampNeg)) + ((10 - p2.toInt64) * (x97_brings (0 : Int32).toNatClampNeg)))), (6, .long (x97_l6 * 10)), (9, .int x97_l9), (0, .ref (q 0)), (1, .int p0), (2, .int p1), (3, .int p2), (4, .int p3), (5, .int p4)]) hx hb dX5_weather_224 hl (k := 2) rfl (by rfl) (by decide) rfl (fun ls hl => ?_)
                                  refine lv_goto (tgt := 114) hx hb dX5_weather_227 (by decide) ?_
                                  obtain rfl := Option.some.inj hs114
                                  exact ih114 _ _ _ _ _ _ hw114 hP hD hS (lv_sub hl [0, 3, 4, 1, 5, 6, 7, 8, 9, 10] rfl)
                                · exact absurd c29 c30
                              · rw [if_neg c29] at hs114
                                refine lv_iconst (v := 1) hx hb dX5_weather_182 (by decide) ?_
                                refine lv_goto (tgt := 192) hx hb dX5_weather_183 (by decide) ?_
                                refine lv_istore (lv' := [(8, .int 1), (11, .long ((p2.toInt64 * (x97_brings ((x114_l10 + 1)).toNatClampNeg)) + ((10 - p2.toInt64) * (x97_brings (0 : Int32).toNatClampNeg)))), (10, .int x114_l10), (6, .long (x97_l6 * 10)), (9, .int x97_l9), (0, .ref (q 0)), (1, .int p0), (2, .int p1), (3, .int p2), (4, .int p3), (5, .int p4)]) hx hb dX5_weather_192 hl (by decide) rfl (fun ls hl => ?_)
                                refine lv_aload_n hx hb dX5_weather_194 rfl (lv_at hl 5 rfl) ?_
                                refine va_get (D := D) (ci := 5) (v := .ref (q 17)) (C := RX5) (T := TX5) (N := 33) hx hb hts inX5_weather_X5 hown hK hP 0 rfl rfl 28 (by decide) (hts (.fieldLink RX5 59 "WordScalesModel" "bringsThen" "[J") (List.mem_of_getElem? (i := 6) rfl)) (fun _ h9 => h9) rfl dX5_weather_195 ?_
                                refine lv_iload hx hb dX5_weather_198 (lv_at hl 2 rfl) ?_
                                refine lv_iload hx hb dX5_weather_200 (lv_at hl 2 rfl) ?_
                                refine lv_i2l (v := x114_l10.toInt64) hx hb dX5_weather_202 rfl ?_
                                refine lv_lload hx hb dX5_weather_203 (lv_at hl 3 rfl) ?_
                                refine lv_lmul hx hb dX5_weather_205 ?_
                                refine lv_lload hx hb dX5_weather_206 (lv_at hl 1 rfl) ?_
                                refine W.lcmp hx hb dX5_weather_208 ?_
                                refine lv_if_lt (tgt := 221) hx hb dX5_weather_209 (by decide) (fun c32 => ?_) (fun c32 => ?_)
                                · exact absurd c32 c29
                                · skip
                                  refine lv_iload hx hb dX5_weather_212 (lv_at hl 2 rfl) ?_
                                  refine lv_i2l (v := x114_l10.toInt64) hx hb dX5_weather_214 rfl ?_
                                  refine lv_lload hx hb dX5_weather_215 (lv_at hl 3 rfl) ?_
                                  refine lv_lmul hx hb dX5_weather_217 ?_
                                  refine lv_goto (tgt := 223) hx hb dX5_weather_218 (by decide) ?_
                                  obtain ⟨v33, hs114⟩ := chk_el hs114
                                  refine va_last (D := D) (f := x114_bringsThen) hx hb hK hP hD hS 17 1 rfl rfl v33 dX5_weather_223 (fun H locs hP hD hS => ?_)
                                  have hP : va_P D vwCl (mdW K q vweight vkind vrhymes vpurse vhas vwishes vwishMany vsightLeft vsightRight vsightHow vsights vpad vpadMany vact vwho vwhich vwhom vacts vplace vopenMany vended vspoken vheaviest vheaviestWeight vhad vbadAct vbadWhy x97_brings (vp_updL x114_bringsThen (x114_l10).toNatClampNeg (x114_l10.toInt64 * (x97_l6 * 10))) vkept visKept vkeptAt visWriting) H := hP
                                  have hD : va_D A (mdW K q vweight vkind vrhymes vpurse vhas vwishes vwishMany vsightLeft vsightRight vsightHow vsights vpad vpadMany vact vwho vwhich vwhom vacts vplace vopenMany vended vspoken vheaviest vheaviestWeight vhad vbadAct vbadWhy x97_brings (vp_updL x114_bringsThen (x114_l10).toNatClampNeg (x114_l10.toInt64 * (x97_l6 * 10))) vkept visKept vkeptAt visWriting) := hD
                                  refine lv_iinc (v := (x114_l10 + 1)) (lv' := [(10, .int (x114_l10 + 1)), (8, .int 1), (11, .long ((p2.toInt64 * (x97_brings ((x114_l10 + 1)).toNatClampNeg)) + ((10 - p2.toInt64) * (x97_brings (0 : Int32).toNatClampNeg)))), (6, .long (x97_l6 * 10)), (9, .int x97_l9), (0, .ref (q 0)), (1, .int p0), (2, .int p1), (3, .int p2), (4, .int p3), (5, .int p4)]) hx hb dX5_weather_224 hl (k := 2) rfl (by rfl) (by decide) rfl (fun ls hl => ?_)
                                  refine lv_goto (tgt := 114) hx hb dX5_weather_227 (by decide) ?_
                                  obtain rfl := Option.some.inj hs114
                                  exact ih114 _ _ _ _ _ _ hw114 hP hD hS (lv_sub hl [0, 3, 4, 1, 5, 6, 7, 8, 9, 10] rfl)
                          · rw [if_neg c24] at hs114
                            refine lv_iload hx hb dX5_weather_151 (lv_at hl 0 rfl) ?_
                            refine lv_iconst (v := 1) hx hb dX5_weather_153 (by decide) ?_
                            refine lv_isub hx hb dX5_weather_154 ?_
                            refine lv_goto (tgt := 159) hx hb dX5_weather_155 (by decide) ?_
                            obtain ⟨v34, hs114⟩ := chk_el hs114
                            refine va_lald (D := D) (f := x97_brings) hx hb hK hP 16 1 rfl rfl v34 dX5_weather_159 ?_
                            refine lv_lmul hx hb dX5_weather_160 ?_
                            refine lv_ladd hx hb dX5_weather_161 ?_
                            refine lv_lstore (lv' := [(11, .long ((p2.toInt64 * (x97_brings ((x114_l10 + 1)).toNatClampNeg)) + ((10 - p2.toInt64) * (x97_brings ((x114_l10 - 1)).toNatClampNeg)))), (10, .int x114_l10), (6, .long (x97_l6 * 10)), (9, .int x97_l9), (8, .int x114_l8), (0, .ref (q 0)), (1, .int p0), (2, .int p1), (3, .int p2), (4, .int p3), (5, .int p4)]) hx hb dX5_weather_162 hl (by decide) rfl (fun ls hl => ?_)
                            refine lv_iload hx hb dX5_weather_164 (lv_at hl 1 rfl) ?_
                            refine lv_iload_n hx hb dX5_weather_166 rfl (lv_at hl 6 rfl) ?_
                            refine lv_icmp_ne (tgt := 190) hx hb dX5_weather_167 (by decide) (fun c35 => ?_) (fun c35 => ?_)
                            · rw [if_neg c35] at hs114
                              refine lv_iload hx hb dX5_weather_190 (lv_at hl 4 rfl) ?_
                              refine lv_istore (lv' := [(8, .int x114_l8), (11, .long ((p2.toInt64 * (x97_brings ((x114_l10 + 1)).toNatClampNeg)) + ((10 - p2.toInt64) * (x97_brings ((x114_l10 - 1)).toNatClampNeg)))), (10, .int x114_l10), (6, .long (x97_l6 * 10)), (9, .int x97_l9), (0, .ref (q 0)), (1, .int p0), (2, .int p1), (3, .int p2), (4, .int p3), (5, .int p4)]) hx hb dX5_weather_192 hl (by decide) rfl (fun ls hl => ?_)
                              refine lv_aload_n hx hb dX5_weather_194 rfl (lv_at hl 5 rfl) ?_
                              refine va_get (D := D) (ci := 5) (v := .ref (q 17)) (C := RX5) (T := TX5) (N := 33) hx hb hts inX5_weather_X5 hown hK hP 0 rfl rfl 28 (by decide) (hts (.fieldLink RX5 59 "WordScalesModel" "bringsThen" "[J") (List.mem_of_getElem? (i := 6) rfl)) (fun _ h9 => h9) rfl dX5_weather_195 ?_
                              refine lv_iload hx hb dX5_weather_198 (lv_at hl 2 rfl) ?_
                              refine lv_iload hx hb dX5_weather_200 (lv_at hl 2 rfl) ?_
                              refine lv_i2l (v := x114_l10.toInt64) hx hb dX5_weather_202 rfl ?_
                              refine lv_lload hx hb dX5_weather_203 (lv_at hl 3 rfl) ?_
                              refine lv_lmul hx hb dX5_weather_205 ?_
                              refine lv_lload hx hb dX5_weather_206 (lv_at hl 1 rfl) ?_
                              refine W.lcmp hx hb dX5_weather_208 ?_
                              refine lv_if_lt (tgt := 221) hx hb dX5_weather_209 (by decide) (fun c36 => ?_) (fun c36 => ?_)
                              · rw [if_pos c36] at hs114
                                refine lv_lload hx hb dX5_weather_221 (lv_at hl 1 rfl) ?_
                                obtain ⟨v37, hs114⟩ := chk_el hs114
                                refine va_last (D := D) (f := x114_bringsThen) hx hb hK hP hD hS 17 1 rfl rfl v37 dX5_weather_223 (fun H locs hP hD hS => ?_)
                                have hP : va_P D vwCl (mdW K q vweight vkind vrhymes vpurse vhas vwishes vwishMany vsightLeft vsightRight vsightHow vsights vpad vpadMany vact vwho vwhich vwhom vacts vplace vopenMany vended vspoken vheaviest vheaviestWeight vhad vbadAct vbadWhy x97_brings (vp_updL x114_bringsThen (x114_l10).toNatClampNeg ((p2.toInt64 * (x97_brings ((x114_l10 + 1)).toNatClampNeg)) + ((10 - p2.toInt64) * (x97_brings ((x114_l10 - 1)).toNatClampNeg)))) vkept visKept vkeptAt visWriting) H := hP
                                have hD : va_D A (mdW K q vweight vkind vrhymes vpurse vhas vwishes vwishMany vsightLeft vsightRight vsightHow vsights vpad vpadMany vact vwho vwhich vwhom vacts vplace vopenMany vended vspoken vheaviest vheaviestWeight vhad vbadAct vbadWhy x97_brings (vp_updL x114_bringsThen (x114_l10).toNatClampNeg ((p2.toInt64 * (x97_brings ((x114_l10 + 1)).toNatClampNeg)) + ((10 - p2.toInt64) * (x97_brings ((x114_l10 - 1)).toNatClampNeg)))) vkept visKept vkeptAt visWriting) := hD
                                refine lv_iinc (v := (x114_l10 + 1)) (lv' := [(10, .int (x114_l10 + 1)), (8, .int x114_l8), (11, .long ((p2.toInt64 * (x97_brings ((x114_l10 + 1)).toNatClampNeg)) + ((10 - p2.toInt64) * (x97_brings ((x114_l10 - 1)).toNatClampNeg)))), (6, .long (x97_l6 * 10)), (9, .int x97_l9), (0, .ref (q 0)), (1, .int p0), (2, .int p1), (3, .int p2), (4, .int p3), (5, .int p4)]) hx hb dX5_weather_224 hl (k := 2) rfl (by rfl) (by decide) rfl (fun ls hl => ?_)
                                refine lv_goto (tgt := 114) hx hb dX5_weather_227 (by decide) ?_
                                obtain rfl := Option.some.inj hs114
                                exact ih114 _ _ _ _ _ _ hw114 hP hD hS (lv_sub hl [0, 3, 4, 1, 5, 6, 7, 8, 9, 10] rfl)
                              · rw [if_neg c36] at hs114
                                refine lv_iload hx hb dX5_weather_212 (lv_at hl 2 rfl) ?_
                                refine lv_i2l (v := x114_l10.toInt64) hx hb dX5_weather_214 rfl ?_
                                refine lv_lload hx hb dX5_weather_215 (lv_at hl 3 rfl) ?_
                                refine lv_lmul hx hb dX5_weather_217 ?_
                                refine lv_goto (tgt := 223) hx hb dX5_weather_218 (by decide) ?_
                                obtain ⟨v38, hs114⟩ := chk_el hs114
                                refine va_last (D := D) (f := x114_bringsThen) hx hb hK hP hD hS 17 1 rfl rfl v38 dX5_weather_223 (fun H locs hP hD hS => ?_)
                                have hP : va_P D vwCl (mdW K q vweight vkind vrhymes vpurse vhas vwishes vwishMany vsightLeft vsightRight vsightHow vsights vpad vpadMany vact vwho vwhich vwhom vacts vplace vopenMany vended vspoken vheaviest vheaviestWeight vhad vbadAct vbadWhy x97_brings (vp_updL x114_bringsThen (x114_l10).toNatClampNeg (x114_l10.toInt64 * (x97_l6 * 10))) vkept visKept vkeptAt visWriting) H := hP
                                have hD : va_D A (mdW K q vweight vkind vrhymes vpurse vhas vwishes vwishMany vsightLeft vsightRight vsightHow vsights vpad vpadMany vact vwho vwhich vwhom vacts vplace vopenMany vended vspoken vheaviest vheaviestWeight vhad vbadAct vbadWhy x97_brings (vp_updL x114_bringsThen (x114_l10).toNatClampNeg (x114_l10.toInt64 * (x97_l6 * 10))) vkept visKept vkeptAt visWriting) := hD
                                refine lv_iinc (v := (x114_l10 + 1)) (lv' := [(10, .int (x114_l10 + 1)), (8, .int x114_l8), (11, .long ((p2.toInt64 * (x97_brings ((x114_l10 + 1)).toNatClampNeg)) + ((10 - p2.toInt64) * (x97_brings ((x114_l10 - 1)).toNatClampNeg)))), (6, .long (x97_l6 * 10)), (9, .int x97_l9), (0, .ref (q 0)), (1, .int p0), (2, .int p1), (3, .int p2), (4, .int p3), (5, .int p4)]) hx hb dX5_weather_224 hl (k := 2) rfl (by rfl) (by decide) rfl (fun ls hl => ?_)
                                refine lv_goto (tgt := 114) hx hb dX5_weather_227 (by decide) ?_
                                obtain rfl := Option.some.inj hs114
                                exact ih114 _ _ _ _ _ _ hw114 hP hD hS (lv_sub hl [0, 3, 4, 1, 5, 6, 7, 8, 9, 10] rfl)
                            · rw [if_pos c35] at hs114
                              refine lv_iload hx hb dX5_weather_170 (lv_at hl 1 rfl) ?_
                              refine lv_i2l (v := x114_l10.toInt64) hx hb dX5_weather_172 rfl ?_
                              refine lv_lload hx hb dX5_weather_173 (lv_at hl 2 rfl) ?_
                              refine lv_lmul hx hb dX5_weather_175 ?_
                              refine lv_lload hx hb dX5_weather_176 (lv_at hl 0 rfl) ?_
                              refine W.lcmp hx hb dX5_weather_178 ?_
                              refine lv_if_lt (tgt := 186) hx hb dX5_weather_179 (by decide) (fun c39 => ?_) (fun c39 => ?_)
                              · rw [if_pos c39] at hs114
                                refine lv_iconst (v := 0) hx hb dX5_weather_186 (by decide) ?_
                                refine lv_goto (tgt := 192) hx hb dX5_weather_187 (by decide) ?_
                                refine lv_istore (lv' := [(8, .int 0), (11, .long ((p2.toInt64 * (x97_brings ((x114_l10 + 1)).toNatClampNeg)) + ((10 - p2.toInt64) * (x97_brings ((x114_l10 - 1)).toNatClampNeg)))), (10, .int x114_l10), (6, .long (x97_l6 * 10)), (9, .int x97_l9), (0, .ref (q 0)), (1, .int p0), (2, .int p1), (3, .int p2), (4, .int p3), (5, .int p4)]) hx hb dX5_weather_192 hl (by decide) rfl (fun ls hl => ?_)
                                refine lv_aload_n hx hb dX5_weather_194 rfl (lv_at hl 5 rfl) ?_
                                refine va_get (D := D) (ci := 5) (v := .ref (q 17)) (C := RX5) (T := TX5) (N := 33) hx hb hts inX5_weather_X5 hown hK hP 0 rfl rfl 28 (by decide) (hts (.fieldLink RX5 59 "WordScalesModel" "bringsThen" "[J") (List.mem_of_getElem? (i := 6) rfl)) (fun _ h9 => h9) rfl dX5_weather_195 ?_
                                refine lv_iload hx hb dX5_weather_198 (lv_at hl 2 rfl) ?_
                                refine lv_iload hx hb dX5_weather_200 (lv_at hl 2 rfl) ?_
                                refine lv_i2l (v := x114_l10.toInt64) hx hb dX5_weather_202 rfl ?_
                                refine lv_lload hx hb dX5_weather_203 (lv_at hl 3 rfl) ?_
                                refine lv_lmul hx hb dX5_weather_205 ?_
                                refine lv_lload hx hb dX5_weather_206 (lv_at hl 1 rfl) ?_
                                refine W.lcmp hx hb dX5_weather_208 ?_
                                refine lv_if_lt (tgt := 221) hx hb dX5_weather_209 (by decide) (fun c40 => ?_) (fun c40 => ?_)
                                · skip
                                  refine lv_lload hx hb dX5_weather_221 (lv_at hl 1 rfl) ?_
                                  obtain ⟨v41, hs114⟩ := chk_el hs114
                                  refine va_last (D := D) (f := x114_bringsThen) hx hb hK hP hD hS 17 1 rfl rfl v41 dX5_weather_223 (fun H locs hP hD hS => ?_)
                                  have hP : va_P D vwCl (mdW K q vweight vkind vrhymes vpurse vhas vwishes vwishMany vsightLeft vsightRight vsightHow vsights vpad vpadMany vact vwho vwhich vwhom vacts vplace vopenMany vended vspoken vheaviest vheaviestWeight vhad vbadAct vbadWhy x97_brings (vp_updL x114_bringsThen (x114_l10).toNatClampNeg ((p2.toInt64 * (x97_brings ((x114_l10 + 1)).toNatClampNeg)) + ((10 - p2.toInt64) * (x97_brings ((x114_l10 - 1)).toNatClampNeg)))) vkept visKept vkeptAt visWriting) H := hP
                                  have hD : va_D A (mdW K q vweight vkind vrhymes vpurse vhas vwishes vwishMany vsightLeft vsightRight vsightHow vsights vpad vpadMany vact vwho vwhich vwhom vacts vplace vopenMany vended vspoken vheaviest vheaviestWeight vhad vbadAct vbadWhy x97_brings (vp_updL x114_bringsThen (x114_l10).toNatClampNeg ((p2.toInt64 * (x97_brings ((x114_l10 + 1)).toNatClampNeg)) + ((10 - p2.toInt64) * (x97_brings ((x114_l10 - 1)).toNatClampNeg)))) vkept visKept vkeptAt visWriting) := hD
                                  refine lv_iinc (v := (x114_l10 + 1)) (lv' := [(10, .int (x114_l10 + 1)), (8, .int 0), (11, .long ((p2.toInt64 * (x97_brings ((x114_l10 + 1)).toNatClampNeg)) + ((10 - p2.toInt64) * (x97_brings ((x114_l10 - 1)).toNatClampNeg)))), (6, .long (x97_l6 * 10)), (9, .int x97_l9), (0, .ref (q 0)), (1, .int p0), (2, .int p1), (3, .int p2), (4, .int p3), (5, .int p4)]) hx hb dX5_weather_224 hl (k := 2) rfl (by rfl) (by decide) rfl (fun ls hl => ?_)
                                  refine lv_goto (tgt := 114) hx hb dX5_weather_227 (by decide) ?_
                                  obtain rfl := Option.some.inj hs114
                                  exact ih114 _ _ _ _ _ _ hw114 hP hD hS (lv_sub hl [0, 3, 4, 1, 5, 6, 7, 8, 9, 10] rfl)
                                · exact absurd c39 c40
                              · rw [if_neg c39] at hs114
                                refine lv_iconst (v := 1) hx hb dX5_weather_182 (by decide) ?_
                                refine lv_goto (tgt := 192) hx hb dX5_weather_183 (by decide) ?_
                                refine lv_istore (lv' := [(8, .int 1), (11, .long ((p2.toInt64 * (x97_brings ((x114_l10 + 1)).toNatClampNeg)) + ((10 - p2.toInt64) * (x97_brings ((x114_l10 - 1)).toNatClampNeg)))), (10, .int x114_l10), (6, .long (x97_l6 * 10)), (9, .int x97_l9), (0, .ref (q 0)), (1, .int p0), (2, .int p1), (3, .int p2), (4, .int p3), (5, .int p4)]) hx hb dX5_weather_192 hl (by decide) rfl (fun ls hl => ?_)
                                refine lv_aload_n hx hb dX5_weather_194 rfl (lv_at hl 5 rfl) ?_
                                refine va_get (D := D) (ci := 5) (v := .ref (q 17)) (C := RX5) (T := TX5) (N := 33) hx hb hts inX5_weather_X5 hown hK hP 0 rfl rfl 28 (by decide) (hts (.fieldLink RX5 59 "WordScalesModel" "bringsThen" "[J") (List.mem_of_getElem? (i := 6) rfl)) (fun _ h9 => h9) rfl dX5_weather_195 ?_
                                refine lv_iload hx hb dX5_weather_198 (lv_at hl 2 rfl) ?_
                                refine lv_iload hx hb dX5_weather_200 (lv_at hl 2 rfl) ?_
                                refine lv_i2l (v := x114_l10.toInt64) hx hb dX5_weather_202 rfl ?_
                                refine lv_lload hx hb dX5_weather_203 (lv_at hl 3 rfl) ?_
                                refine lv_lmul hx hb dX5_weather_205 ?_
                                refine lv_lload hx hb dX5_weather_206 (lv_at hl 1 rfl) ?_
                                refine W.lcmp hx hb dX5_weather_208 ?_
                                refine lv_if_lt (tgt := 221) hx hb dX5_weather_209 (by decide) (fun c42 => ?_) (fun c42 => ?_)
                                · exact absurd c42 c39
                                · skip
                                  refine lv_iload hx hb dX5_weather_212 (lv_at hl 2 rfl) ?_
                                  refine lv_i2l (v := x114_l10.toInt64) hx hb dX5_weather_214 rfl ?_
                                  refine lv_lload hx hb dX5_weather_215 (lv_at hl 3 rfl) ?_
                                  refine lv_lmul hx hb dX5_weather_217 ?_
                                  refine lv_goto (tgt := 223) hx hb dX5_weather_218 (by decide) ?_
                                  obtain ⟨v43, hs114⟩ := chk_el hs114
                                  refine va_last (D := D) (f := x114_bringsThen) hx hb hK hP hD hS 17 1 rfl rfl v43 dX5_weather_223 (fun H locs hP hD hS => ?_)
                                  have hP : va_P D vwCl (mdW K q vweight vkind vrhymes vpurse vhas vwishes vwishMany vsightLeft vsightRight vsightHow vsights vpad vpadMany vact vwho vwhich vwhom vacts vplace vopenMany vended vspoken vheaviest vheaviestWeight vhad vbadAct vbadWhy x97_brings (vp_updL x114_bringsThen (x114_l10).toNatClampNeg (x114_l10.toInt64 * (x97_l6 * 10))) vkept visKept vkeptAt visWriting) H := hP
                                  have hD : va_D A (mdW K q vweight vkind vrhymes vpurse vhas vwishes vwishMany vsightLeft vsightRight vsightHow vsights vpad vpadMany vact vwho vwhich vwhom vacts vplace vopenMany vended vspoken vheaviest vheaviestWeight vhad vbadAct vbadWhy x97_brings (vp_updL x114_bringsThen (x114_l10).toNatClampNeg (x114_l10.toInt64 * (x97_l6 * 10))) vkept visKept vkeptAt visWriting) := hD
                                  refine lv_iinc (v := (x114_l10 + 1)) (lv' := [(10, .int (x114_l10 + 1)), (8, .int 1), (11, .long ((p2.toInt64 * (x97_brings ((x114_l10 + 1)).toNatClampNeg)) + ((10 - p2.toInt64) * (x97_brings ((x114_l10 - 1)).toNatClampNeg)))), (6, .long (x97_l6 * 10)), (9, .int x97_l9), (0, .ref (q 0)), (1, .int p0), (2, .int p1), (3, .int p2), (4, .int p3), (5, .int p4)]) hx hb dX5_weather_224 hl (k := 2) rfl (by rfl) (by decide) rfl (fun ls hl => ?_)
                                  refine lv_goto (tgt := 114) hx hb dX5_weather_227 (by decide) ?_
                                  obtain rfl := Option.some.inj hs114
                                  exact ih114 _ _ _ _ _ _ hw114 hP hD hS (lv_sub hl [0, 3, 4, 1, 5, 6, 7, 8, 9, 10] rfl)
                    exact lp114 5000 _ _ _ _ _ _ hr18 hP hD hS (lv_sub hl [0, 1, 2, 3, 4, 5, 6, 7, 8, 9] rfl)
              exact lp97 5000 _ _ _ _ _ _ _ _ hr12 hP hD hS (lv_sub hl [0, 1, 2, 3, 4, 5, 6, 7, 8] rfl)
            have lp65 : ∀ (fu : Nat) (x65_l6 : Int32) (x65_brings : Nat → Int64) (H : Heap) (locs : List Loc) (ls : Array Slot), wh (s_X5_weather_65) fu (x65_l6, x65_brings) = some r11 → va_P D vwCl (mdW K q vweight vkind vrhymes vpurse vhas vwishes vwishMany vsightLeft vsightRight vsightHow vsights vpad vpadMany vact vwho vwhich vwhom vacts vplace vopenMany vended vspoken vheaviest vheaviestWeight vhad vbadAct vbadWhy x65_brings vbringsThen vkept visKept vkeptAt visWriting) H → va_D A (mdW K q vweight vkind vrhymes vpurse vhas vwishes vwishMany vsightLeft vsightRight vsightHow vsights vpad vpadMany vact vwho vwhich vwhom vacts vplace vopenMany vended vspoken vheaviest vheaviestWeight vhad vbadAct vbadWhy x65_brings vbringsThen vkept visKept vkeptAt visWriting) → va_S A H0 H locs → lv_has ls 13 [(6, .int x65_l6), (0, .ref (q 0)), (1, .int p0), (2, .int p1), (3, .int p2), (4, .int p3), (5, .int p4)] → W p l e rmX5_weather s m args below meth c H locs 0 0 Q (F0 m 65 ls []) := by
              intro fu
              induction fu with
              | zero => intro x65_l6 x65_brings H locs ls hw65; cases hw65
              | succ fu ih65 =>
                intro x65_l6 x65_brings H locs ls hw65 hP hD hS hl
                obtain ⟨o65_, hs65, hw65⟩ := wh_el hw65
                unfold s_X5_weather_65 at hs65
                dsimp only at hs65
                refine lv_iload hx hb dX5_weather_65 (lv_at hl 0 rfl) ?_
                refine lv_bipush (v := 50) hx hb dX5_weather_67 (by decide) ?_
                refine lv_icmp_ge (tgt := 88) hx hb dX5_weather_69 (by decide) (fun c44 => ?_) (fun c44 => ?_)
                · rw [if_pos c44] at hs65
                  obtain rfl := Option.some.inj hs65
                  have e9 := Option.some.inj hw65
                  rw [← e9] at hf
                  exact post65 _ _ _ _ _ hf hP hD hS (lv_sub hl [0, 1, 2, 3, 4, 5, 6] rfl)
                · rw [if_neg c44] at hs65
                  refine lv_aload_n hx hb dX5_weather_72 rfl (lv_at hl 1 rfl) ?_
                  refine va_get (D := D) (ci := 5) (v := .ref (q 16)) (C := RX5) (T := TX5) (N := 33) hx hb hts inX5_weather_X5 hown hK hP 0 rfl rfl 27 (by decide) (hts (.fieldLink RX5 55 "WordScalesModel" "brings" "[J") (List.mem_of_getElem? (i := 5) rfl)) (fun _ h9 => h9) rfl dX5_weather_73 ?_
                  refine lv_iload hx hb dX5_weather_76 (lv_at hl 0 rfl) ?_
                  refine lv_iload hx hb dX5_weather_78 (lv_at hl 0 rfl) ?_
                  refine lv_i2l (v := x65_l6.toInt64) hx hb dX5_weather_80 rfl ?_
                  obtain ⟨v45, hs65⟩ := chk_el hs65
                  refine va_last (D := D) (f := x65_brings) hx hb hK hP hD hS 16 1 rfl rfl v45 dX5_weather_81 (fun H locs hP hD hS => ?_)
                  have hP : va_P D vwCl (mdW K q vweight vkind vrhymes vpurse vhas vwishes vwishMany vsightLeft vsightRight vsightHow vsights vpad vpadMany vact vwho vwhich vwhom vacts vplace vopenMany vended vspoken vheaviest vheaviestWeight vhad vbadAct vbadWhy (vp_updL x65_brings (x65_l6).toNatClampNeg x65_l6.toInt64) vbringsThen vkept visKept vkeptAt visWriting) H := hP
                  have hD : va_D A (mdW K q vweight vkind vrhymes vpurse vhas vwishes vwishMany vsightLeft vsightRight vsightHow vsights vpad vpadMany vact vwho vwhich vwhom vacts vplace vopenMany vended vspoken vheaviest vheaviestWeight vhad vbadAct vbadWhy (vp_updL x65_brings (x65_l6).toNatClampNeg x65_l6.toInt64) vbringsThen vkept visKept vkeptAt visWriting) := hD
                  refine lv_iinc (v := (x65_l6 + 1)) (lv' := [(6, .int (x65_l6 + 1)), (0, .ref (q 0)), (1, .int p0), (2, .int p1), (3, .int p2), (4, .int p3), (5, .int p4)]) hx hb dX5_weather_82 hl (k := 0) rfl (by rfl) (by decide) rfl (fun ls hl => ?_)
                  refine lv_goto (tgt := 65) hx hb dX5_weather_85 (by decide) ?_
                  obtain rfl := Option.some.inj hs65
                  exact ih65 _ _ _ _ _ hw65 hP hD hS (lv_sub hl [0, 1, 2, 3, 4, 5, 6] rfl)
            exact lp65 5000 _ _ _ _ _ hr11 hP hD hS (lv_sub hl [0, 1, 2, 3, 4, 5, 6] rfl)
          · rw [if_pos c10] at hf
            refine lv_ldc2 hx hb hown (hts (.constantLong RX5 240 (-1000000000000000002)) (List.mem_of_getElem? (i := 4) rfl)) dX5_weather_58 ?_
            obtain rfl := Option.some.inj hf
            exact hret rfl rfl hP hD hS dX5_weather_61
def s_X5_synonyms_73 (p1 : Int32) (p2 : Int32) (p3 : Int32) (x : Int32 × Int32) : Option ((Int32 × Int32) ⊕ (Int32 × Int32)) := if p3 ≤ x.2 then (some (.inr (x.1, x.2))) else (if (x.1 - 1) ≤ p1 then (some (.inl (p2, (x.2 + 1)))) else (some (.inl ((x.1 - 1), (x.2 + 1)))))
def f_X5_synonyms (p0 : Int32) (p1 : Int32) (p2 : Int32) (p3 : Int32) : Option (Int32) := bd (f_X5_in p0.toInt64 (0) (40)) (fun o1 => if o1 = 0 then (some (-2)) else (bd (f_X5_in p1.toInt64 (0) (20)) (fun o3 => if o3 = 0 then (some (-2)) else (bd (f_X5_in p2.toInt64 (p1.toInt64 + 1) (40)) (fun o5 => if o5 = 0 then (some (-2)) else (bd (f_X5_in p3.toInt64 (-1) (99)) (fun o7 => if o7 = 0 then (some (-2)) else (if p3 = (-1) then (some (p2 - p1)) else (ob (wh (s_X5_synonyms_73 p1 p2 p3) 5000 (p0, 0)) (fun r10 => some r10.1))))))))))
theorem yd_X5_synonyms : yX5_synonyms.cls ≠ "java/lang/invoke/MethodHandle" ∧ yX5_synonyms.cls ≠ "java/lang/invoke/VarHandle" ∧ (parseMethodDescriptor yX5_synonyms.desc).map (fun d => d.parameters.length) = some 4 := by decide +kernel
abbrev rmX5_synonyms : Room := { frames := 1, cells := 0, slots := 0, locals := 25 }
set_option maxHeartbeats 4000000 in
set_option maxRecDepth 100000 in
theorem k_X5_synonyms (l : Launch) (D : va_G) (K : Nat → ClassId) (q : Nat → Nat) (vweight : Nat → Int32) (vkind : Nat → Int32) (vrhymes : Nat → Int32) (vpurse : Nat → Int32) (vhas : Nat → Int32) (vwishes : Nat → Int32) (vwishMany : Int32) (vsightLeft : Nat → Int32) (vsightRight : Nat → Int32) (vsightHow : Nat → Int32) (vsights : Int32) (vpad : Nat → Int32) (vpadMany : Int32) (vact : Nat → Int32) (vwho : Nat → Int32) (vwhich : Nat → Int32) (vwhom : Nat → Int32) (vacts : Int32) (vplace : Int32) (vopenMany : Int32) (vended : Int32) (vspoken : Int32) (vheaviest : Int32) (vheaviestWeight : Int32) (vhad : Nat → Int32) (vbadAct : Int32) (vbadWhy : Int32) (vbrings : Nat → Int64) (vbringsThen : Nat → Int64) (vkept : Nat → Int32) (visKept : Nat → Int32) (vkeptAt : Int32) (visWriting : Int32) (p0 : Int32) (p1 : Int32) (p2 : Int32) (p3 : Int32) (out : Int32) (hf : f_X5_synonyms p0 p1 p2 p3 = some out) : kI l D K .int yX5_synonyms wsX5_synonyms rmX5_synonyms [.ref (q 0), .int p0, .int p1, .int p2, .int p3] (mdW K q vweight vkind vrhymes vpurse vhas vwishes vwishMany vsightLeft vsightRight vsightHow vsights vpad vpadMany vact vwho vwhich vwhom vacts vplace vopenMany vended vspoken vheaviest vheaviestWeight vhad vbadAct vbadWhy vbrings vbringsThen vkept visKept vkeptAt visWriting) out (mdW K q vweight vkind vrhymes vpurse vhas vwishes vwishMany vsightLeft vsightRight vsightHow vsights vpad vpadMany vact vwho vwhich vwhom vacts vplace vopenMany vended vspoken vheaviest vheaviestWeight vhad vbadAct vbadWhy vbrings vbringsThen vkept visKept vkeptAt visWriting) := by
  refine kI.of (cc := cX5_synonyms) (maxL := 7) (by decide) rfl (Nat.le_of_ble_eq_true rfl) ?_
  intro p e s m args below meth c A H0 Q ls hx hb hml hown hts hK hN hA hP hD hS hl hret
  have hown : s.vm.findClass RX5 = some m.cls := hown
  have hl : lv_has ls 7 [(0, .ref (q 0)), (1, .int p0), (2, .int p1), (3, .int p2), (4, .int p3)] := hl
  generalize hH : H0 = H at hP ⊢
  have hS : va_S A H0 H [] := by rw [← hH]; exact hS
  clear hH
  unfold f_X5_synonyms at hf
  refine lv_iload_n hx hb dX5_synonyms_0 rfl (lv_at hl 1 rfl) ?_
  refine lv_i2l (v := p0.toInt64) hx hb dX5_synonyms_1 rfl ?_
  refine lv_lconst (v := 0) hx hb dX5_synonyms_2 (by decide) ?_
  refine lv_ldc2 hx hb hown (hts (.constantLong RX5 236 (40)) (List.mem_of_getElem? (i := 1) rfl)) dX5_synonyms_3 ?_
  obtain ⟨o1, ho1, hf⟩ := bd_el hf
  refine kc0_i (D := D) (va_runS (As := [.long p0.toInt64, .long 0, .long 40]) (rest := []) ⟨hx, hb, hml, hown, hts⟩ ((k_X5_in l D K p0.toInt64 (0) (40) o1 ho1) H.size) (va_cwS 3 hts gX5_synonyms_X5_in rfl rfl rfl yd_X5_in ⟨Nat.le_of_ble_eq_true rfl, Nat.le_of_ble_eq_true rfl⟩) (kPreS va_P_nil (va_D_nil (A := fun _ => True)) hK hN) rfl rfl hl.1 rfl (lv_room (Nat.le_of_ble_eq_true rfl)) dX5_synonyms_6 ⟨Nat.le_of_ble_eq_true rfl, Nat.le_of_ble_eq_true rfl⟩) hP hS hA (fun hzo1 H locs hP hS => ?_)
  refine lv_if_eq (tgt := 54) hx hb dX5_synonyms_9 (by decide) (fun c2 => ?_) (fun c2 => ?_)
  · rw [if_pos c2] at hf
    refine lv_bipush (v := (-2)) hx hb dX5_synonyms_54 (by decide) ?_
    obtain rfl := Option.some.inj hf
    exact hret rfl rfl rfl hP hD hS dX5_synonyms_56
  · rw [if_neg c2] at hf
    refine lv_iload_n hx hb dX5_synonyms_12 rfl (lv_at hl 2 rfl) ?_
    refine lv_i2l (v := p1.toInt64) hx hb dX5_synonyms_13 rfl ?_
    refine lv_lconst (v := 0) hx hb dX5_synonyms_14 (by decide) ?_
    refine lv_ldc2 hx hb hown (hts (.constantLong RX5 246 (20)) (List.mem_of_getElem? (i := 2) rfl)) dX5_synonyms_15 ?_
    obtain ⟨o3, ho3, hf⟩ := bd_el hf
    refine kc0_i (D := D) (va_runS (As := [.long p1.toInt64, .long 0, .long 20]) (rest := []) ⟨hx, hb, hml, hown, hts⟩ ((k_X5_in l D K p1.toInt64 (0) (20) o3 ho3) H.size) (va_cwS 3 hts gX5_synonyms_X5_in rfl rfl rfl yd_X5_in ⟨Nat.le_of_ble_eq_true rfl, Nat.le_of_ble_eq_true rfl⟩) (kPreS va_P_nil (va_D_nil (A := fun _ => True)) hK hN) rfl rfl hl.1 rfl (lv_room (Nat.le_of_ble_eq_true rfl)) dX5_synonyms_18 ⟨Nat.le_of_ble_eq_true rfl, Nat.le_of_ble_eq_true rfl⟩) hP hS hA (fun hzo3 H locs hP hS => ?_)
    refine lv_if_eq (tgt := 54) hx hb dX5_synonyms_21 (by decide) (fun c4 => ?_) (fun c4 => ?_)
    · rw [if_pos c4] at hf
      refine lv_bipush (v := (-2)) hx hb dX5_synonyms_54 (by decide) ?_
      obtain rfl := Option.some.inj hf
      exact hret rfl rfl rfl hP hD hS dX5_synonyms_56
    · rw [if_neg c4] at hf
      refine lv_iload_n hx hb dX5_synonyms_24 rfl (lv_at hl 3 rfl) ?_
      refine lv_i2l (v := p2.toInt64) hx hb dX5_synonyms_25 rfl ?_
      refine lv_iload_n hx hb dX5_synonyms_26 rfl (lv_at hl 2 rfl) ?_
      refine lv_i2l (v := p1.toInt64) hx hb dX5_synonyms_27 rfl ?_
      refine lv_lconst (v := 1) hx hb dX5_synonyms_28 (by decide) ?_
      refine lv_ladd hx hb dX5_synonyms_29 ?_
      refine lv_ldc2 hx hb hown (hts (.constantLong RX5 236 (40)) (List.mem_of_getElem? (i := 1) rfl)) dX5_synonyms_30 ?_
      obtain ⟨o5, ho5, hf⟩ := bd_el hf
      refine kc0_i (D := D) (va_runS (As := [.long p2.toInt64, .long (p1.toInt64 + 1), .long 40]) (rest := []) ⟨hx, hb, hml, hown, hts⟩ ((k_X5_in l D K p2.toInt64 (p1.toInt64 + 1) (40) o5 ho5) H.size) (va_cwS 3 hts gX5_synonyms_X5_in rfl rfl rfl yd_X5_in ⟨Nat.le_of_ble_eq_true rfl, Nat.le_of_ble_eq_true rfl⟩) (kPreS va_P_nil (va_D_nil (A := fun _ => True)) hK hN) rfl rfl hl.1 rfl (lv_room (Nat.le_of_ble_eq_true rfl)) dX5_synonyms_33 ⟨Nat.le_of_ble_eq_true rfl, Nat.le_of_ble_eq_true rfl⟩) hP hS hA (fun hzo5 H locs hP hS => ?_)
      refine lv_if_eq (tgt := 54) hx hb dX5_synonyms_36 (by decide) (fun c6 => ?_) (fun c6 => ?_)
      · rw [if_pos c6] at hf
        refine lv_bipush (v := (-2)) hx hb dX5_synonyms_54 (by decide) ?_
        obtain rfl := Option.some.inj hf
        exact hret rfl rfl rfl hP hD hS dX5_synonyms_56
      · rw [if_neg c6] at hf
        refine lv_iload hx hb dX5_synonyms_39 (lv_at hl 4 rfl) ?_
        refine lv_i2l (v := p3.toInt64) hx hb dX5_synonyms_41 rfl ?_
        refine lv_ldc2 hx hb hown (hts (.constantLong RX5 196 (-1)) (List.mem_of_getElem? (i := 3) rfl)) dX5_synonyms_42 ?_
        refine lv_ldc2 hx hb hown (hts (.constantLong RX5 81 (99)) (List.mem_of_getElem? (i := 4) rfl)) dX5_synonyms_45 ?_
        obtain ⟨o7, ho7, hf⟩ := bd_el hf
        refine kc0_i (D := D) (va_runS (As := [.long p3.toInt64, .long (-1), .long 99]) (rest := []) ⟨hx, hb, hml, hown, hts⟩ ((k_X5_in l D K p3.toInt64 (-1) (99) o7 ho7) H.size) (va_cwS 3 hts gX5_synonyms_X5_in rfl rfl rfl yd_X5_in ⟨Nat.le_of_ble_eq_true rfl, Nat.le_of_ble_eq_true rfl⟩) (kPreS va_P_nil (va_D_nil (A := fun _ => True)) hK hN) rfl rfl hl.1 rfl (lv_room (Nat.le_of_ble_eq_true rfl)) dX5_synonyms_48 ⟨Nat.le_of_ble_eq_true rfl, Nat.le_of_ble_eq_true rfl⟩) hP hS hA (fun hzo7 H locs hP hS => ?_)
        refine lv_if_ne (tgt := 57) hx hb dX5_synonyms_51 (by decide) (fun c8 => ?_) (fun c8 => ?_)
        · rw [if_neg c8] at hf
          refine lv_iload hx hb dX5_synonyms_57 (lv_at hl 4 rfl) ?_
          refine lv_iconst (v := (-1)) hx hb dX5_synonyms_59 (by decide) ?_
          refine lv_icmp_ne (tgt := 67) hx hb dX5_synonyms_60 (by decide) (fun c9 => ?_) (fun c9 => ?_)
          · rw [if_neg c9] at hf
            refine lv_iload_n hx hb dX5_synonyms_67 rfl (lv_at hl 1 rfl) ?_
            refine lv_istore (lv' := [(5, .int p0), (0, .ref (q 0)), (1, .int p0), (2, .int p1), (3, .int p2), (4, .int p3)]) hx hb dX5_synonyms_68 hl (by decide) rfl (fun ls hl => ?_)
            refine lv_iconst (v := 0) hx hb dX5_synonyms_70 (by decide) ?_
            refine lv_istore (lv' := [(6, .int 0), (5, .int p0), (0, .ref (q 0)), (1, .int p0), (2, .int p1), (3, .int p2), (4, .int p3)]) hx hb dX5_synonyms_71 hl (by decide) rfl (fun ls hl => ?_)
            obtain ⟨r10, hr10, hf⟩ := ob_el hf
            have post73 : ∀ (e73_l5 : Int32) (e73_l6 : Int32) (H : Heap) (locs : List Loc) (ls : Array Slot), (some e73_l5) = some out → va_P D vwCl (mdW K q vweight vkind vrhymes vpurse vhas vwishes vwishMany vsightLeft vsightRight vsightHow vsights vpad vpadMany vact vwho vwhich vwhom vacts vplace vopenMany vended vspoken vheaviest vheaviestWeight vhad vbadAct vbadWhy vbrings vbringsThen vkept visKept vkeptAt visWriting) H → va_D A (mdW K q vweight vkind vrhymes vpurse vhas vwishes vwishMany vsightLeft vsightRight vsightHow vsights vpad vpadMany vact vwho vwhich vwhom vacts vplace vopenMany vended vspoken vheaviest vheaviestWeight vhad vbadAct vbadWhy vbrings vbringsThen vkept visKept vkeptAt visWriting) → va_S A H0 H locs → lv_has ls 7 [(6, .int e73_l6), (5, .int e73_l5), (0, .ref (q 0)), (1, .int p0), (2, .int p1), (3, .int p2), (4, .int p3)] → W p l e rmX5_synonyms s m args below meth c H locs 0 0 Q (F0 m 104 ls []) := by
              intro e73_l5 e73_l6 H locs ls hf hP hD hS hl
              refine lv_iload hx hb dX5_synonyms_104 (lv_at hl 1 rfl) ?_
              obtain rfl := Option.some.inj hf
              exact hret rfl rfl rfl hP hD hS dX5_synonyms_106
            have lp73 : ∀ (fu : Nat) (x73_l5 : Int32) (x73_l6 : Int32) (H : Heap) (locs : List Loc) (ls : Array Slot), wh (s_X5_synonyms_73 p1 p2 p3) fu (x73_l5, x73_l6) = some r10 → va_P D vwCl (mdW K q vweight vkind vrhymes vpurse vhas vwishes vwishMany vsightLeft vsightRight vsightHow vsights vpad vpadMany vact vwho vwhich vwhom vacts vplace vopenMany vended vspoken vheaviest vheaviestWeight vhad vbadAct vbadWhy vbrings vbringsThen vkept visKept vkeptAt visWriting) H → va_D A (mdW K q vweight vkind vrhymes vpurse vhas vwishes vwishMany vsightLeft vsightRight vsightHow vsights vpad vpadMany vact vwho vwhich vwhom vacts vplace vopenMany vended vspoken vheaviest vheaviestWeight vhad vbadAct vbadWhy vbrings vbringsThen vkept visKept vkeptAt visWriting) → va_S A H0 H locs → lv_has ls 7 [(6, .int x73_l6), (5, .int x73_l5), (0, .ref (q 0)), (1, .int p0), (2, .int p1), (3, .int p2), (4, .int p3)] → W p l e rmX5_synonyms s m args below meth c H locs 0 0 Q (F0 m 73 ls []) := by
              intro fu
              induction fu with
              | zero => intro x73_l5 x73_l6 H locs ls hw73; cases hw73
              | succ fu ih73 =>
                intro x73_l5 x73_l6 H locs ls hw73 hP hD hS hl
                obtain ⟨o73_, hs73, hw73⟩ := wh_el hw73
                unfold s_X5_synonyms_73 at hs73
                dsimp only at hs73
                refine lv_iload hx hb dX5_synonyms_73 (lv_at hl 0 rfl) ?_
                refine lv_iload hx hb dX5_synonyms_75 (lv_at hl 6 rfl) ?_
                refine lv_icmp_ge (tgt := 104) hx hb dX5_synonyms_77 (by decide) (fun c11 => ?_) (fun c11 => ?_)
                · rw [if_pos c11] at hs73
                  obtain rfl := Option.some.inj hs73
                  have e9 := Option.some.inj hw73
                  rw [← e9] at hf
                  exact post73 _ _ _ _ _ hf hP hD hS (lv_sub hl [0, 1, 2, 3, 4, 5, 6] rfl)
                · rw [if_neg c11] at hs73
                  refine lv_iload hx hb dX5_synonyms_80 (lv_at hl 1 rfl) ?_
                  refine lv_iconst (v := 1) hx hb dX5_synonyms_82 (by decide) ?_
                  refine lv_isub hx hb dX5_synonyms_83 ?_
                  refine lv_iload_n hx hb dX5_synonyms_84 rfl (lv_at hl 4 rfl) ?_
                  refine lv_icmp_le (tgt := 95) hx hb dX5_synonyms_85 (by decide) (fun c12 => ?_) (fun c12 => ?_)
                  · rw [if_pos c12] at hs73
                    refine lv_iload_n hx hb dX5_synonyms_95 rfl (lv_at hl 5 rfl) ?_
                    refine lv_istore (lv' := [(5, .int p2), (6, .int x73_l6), (0, .ref (q 0)), (1, .int p0), (2, .int p1), (3, .int p2), (4, .int p3)]) hx hb dX5_synonyms_96 hl (by decide) rfl (fun ls hl => ?_)
                    refine lv_iinc (v := (x73_l6 + 1)) (lv' := [(6, .int (x73_l6 + 1)), (5, .int p2), (0, .ref (q 0)), (1, .int p0), (2, .int p1), (3, .int p2), (4, .int p3)]) hx hb dX5_synonyms_98 hl (k := 1) rfl (by rfl) (by decide) rfl (fun ls hl => ?_)
                    refine lv_goto (tgt := 73) hx hb dX5_synonyms_101 (by decide) ?_
                    obtain rfl := Option.some.inj hs73
                    exact ih73 _ _ _ _ _ hw73 hP hD hS (lv_sub hl [0, 1, 2, 3, 4, 5, 6] rfl)
                  · rw [if_neg c12] at hs73
                    refine lv_iload hx hb dX5_synonyms_88 (lv_at hl 1 rfl) ?_
                    refine lv_iconst (v := 1) hx hb dX5_synonyms_90 (by decide) ?_
                    refine lv_isub hx hb dX5_synonyms_91 ?_
                    refine lv_goto (tgt := 96) hx hb dX5_synonyms_92 (by decide) ?_
                    refine lv_istore (lv' := [(5, .int (x73_l5 - 1)), (6, .int x73_l6), (0, .ref (q 0)), (1, .int p0), (2, .int p1), (3, .int p2), (4, .int p3)]) hx hb dX5_synonyms_96 hl (by decide) rfl (fun ls hl => ?_)
                    refine lv_iinc (v := (x73_l6 + 1)) (lv' := [(6, .int (x73_l6 + 1)), (5, .int (x73_l5 - 1)), (0, .ref (q 0)), (1, .int p0), (2, .int p1), (3, .int p2), (4, .int p3)]) hx hb dX5_synonyms_98 hl (k := 1) rfl (by rfl) (by decide) rfl (fun ls hl => ?_)
                    refine lv_goto (tgt := 73) hx hb dX5_synonyms_101 (by decide) ?_
                    obtain rfl := Option.some.inj hs73
                    exact ih73 _ _ _ _ _ hw73 hP hD hS (lv_sub hl [0, 1, 2, 3, 4, 5, 6] rfl)
            exact lp73 5000 _ _ _ _ _ hr10 hP hD hS (lv_sub hl [0, 1, 2, 3, 4, 5, 6] rfl)
          · rw [if_pos c9] at hf
            refine lv_iload_n hx hb dX5_synonyms_63 rfl (lv_at hl 3 rfl) ?_
            refine lv_iload_n hx hb dX5_synonyms_64 rfl (lv_at hl 2 rfl) ?_
            refine lv_isub hx hb dX5_synonyms_65 ?_
            obtain rfl := Option.some.inj hf
            exact hret rfl rfl rfl hP hD hS dX5_synonyms_66
        · rw [if_pos c8] at hf
          refine lv_bipush (v := (-2)) hx hb dX5_synonyms_54 (by decide) ?_
          obtain rfl := Option.some.inj hf
          exact hret rfl rfl rfl hP hD hS dX5_synonyms_56
def f_X5_actBy (p0 : Int32) : Int32 := if 2 ≤ p0 then (if 4 ≤ p0 then (if p0 = 4 then (1) else (3)) else (2)) else (0)
theorem yd_X5_actBy : yX5_actBy.cls ≠ "java/lang/invoke/MethodHandle" ∧ yX5_actBy.cls ≠ "java/lang/invoke/VarHandle" ∧ (parseMethodDescriptor yX5_actBy.desc).map (fun d => d.parameters.length) = some 1 := by decide +kernel
abbrev rmX5_actBy : Room := { frames := 0, cells := 0, slots := 0, locals := 0 }
set_option maxHeartbeats 4000000 in
set_option maxRecDepth 100000 in
theorem k_X5_actBy (l : Launch) (D : va_G) (K : Nat → ClassId) (p0 : Int32) (out : Int32) (hf : f_X5_actBy p0 = out) : kI l D K .int yX5_actBy wsX5_actBy rmX5_actBy [.int p0] ([] : va_W) out ([] : va_W) := by
  refine kI.of (cc := cX5_actBy) (maxL := 1) (by decide) rfl (Nat.le_of_ble_eq_true rfl) ?_
  intro p e s m args below meth c A H0 Q ls hx hb hml hown hts hK hN hA hP hD hS hl hret
  have hown : s.vm.findClass RX5 = some m.cls := hown
  have hl : lv_has ls 1 [(0, .int p0)] := hl
  generalize hH : H0 = H at hP ⊢
  have hS : va_S A H0 H [] := by rw [← hH]; exact hS
  clear hH
  unfold f_X5_actBy at hf
  refine lv_iload_n hx hb dX5_actBy_0 rfl (lv_at hl 0 rfl) ?_
  refine lv_iconst (v := 2) hx hb dX5_actBy_1 (by decide) ?_
  refine lv_icmp_ge (tgt := 9) hx hb dX5_actBy_2 (by decide) (fun c1 => ?_) (fun c1 => ?_)
  · rw [if_pos c1] at hf
    refine lv_iload_n hx hb dX5_actBy_9 rfl (lv_at hl 0 rfl) ?_
    refine lv_iconst (v := 4) hx hb dX5_actBy_10 (by decide) ?_
    refine lv_icmp_ge (tgt := 18) hx hb dX5_actBy_11 (by decide) (fun c2 => ?_) (fun c2 => ?_)
    · rw [if_pos c2] at hf
      refine lv_iload_n hx hb dX5_actBy_18 rfl (lv_at hl 0 rfl) ?_
      refine lv_iconst (v := 4) hx hb dX5_actBy_19 (by decide) ?_
      refine lv_icmp_ne (tgt := 27) hx hb dX5_actBy_20 (by decide) (fun c3 => ?_) (fun c3 => ?_)
      · rw [if_neg c3] at hf
        refine lv_iconst (v := 3) hx hb dX5_actBy_27 (by decide) ?_
        subst hf
        exact hret rfl rfl rfl hP hD hS dX5_actBy_28
      · rw [if_pos c3] at hf
        refine lv_iconst (v := 1) hx hb dX5_actBy_23 (by decide) ?_
        refine lv_goto (tgt := 28) hx hb dX5_actBy_24 (by decide) ?_
        subst hf
        exact hret rfl rfl rfl hP hD hS dX5_actBy_28
    · rw [if_neg c2] at hf
      refine lv_iconst (v := 2) hx hb dX5_actBy_14 (by decide) ?_
      refine lv_goto (tgt := 28) hx hb dX5_actBy_15 (by decide) ?_
      subst hf
      exact hret rfl rfl rfl hP hD hS dX5_actBy_28
  · rw [if_neg c1] at hf
    refine lv_iconst (v := 0) hx hb dX5_actBy_5 (by decide) ?_
    refine lv_goto (tgt := 28) hx hb dX5_actBy_6 (by decide) ?_
    subst hf
    exact hret rfl rfl rfl hP hD hS dX5_actBy_28
