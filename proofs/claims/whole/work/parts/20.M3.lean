def f_X5_says (vkind : Nat → Int32) (vhas : Nat → Int32) (p0 : Int32) (p1 : Int32) : Option (Int64) := bd (f_X5_isSpeaker p0) (fun o1 => if o1 = 0 then (some (-1)) else (bd (f_X5_in p1.toInt64 (1) (8)) (fun o3 => if o3 = 0 then (some (-2)) else (chk p0 4 (ob (f_X5_manyOf vkind (vhas (p0).toNatClampNeg) (0)) (fun o6 => ob (f_X5_manyOf vkind (vhas (p0).toNatClampNeg) (1)) (fun o7 => ob (f_X5_manyOf vkind (vhas (p0).toNatClampNeg) (2)) (fun o8 => if 2 ≤ p1 then (ob (f_X5_times o8.toInt64 (p1 - 2)) (fun o10 => if 3 ≤ p1 then (ob (f_X5_times o8.toInt64 (p1 - 3)) (fun o12 => some (((o10 * o6.toInt64) * o7.toInt64) + (((((p1 - 2).toInt64 * o12) * o6.toInt64) * o7.toInt64) * o6.toInt64)))) else (some (((o10 * o6.toInt64) * o7.toInt64) + 0)))) else (if 3 ≤ p1 then (ob (f_X5_times o8.toInt64 (p1 - 3)) (fun o14 => some (0 + (((((p1 - 2).toInt64 * o14) * o6.toInt64) * o7.toInt64) * o6.toInt64)))) else (some (0 + 0)))))))))))
theorem inX5_says_X5 : ∀ w ∈ wsX50, w ∈ wsX5_says := fun w h => List.mem_cons_of_mem _ (List.mem_append_right _ h)
theorem yd_X5_says : yX5_says.cls ≠ "java/lang/invoke/MethodHandle" ∧ yX5_says.cls ≠ "java/lang/invoke/VarHandle" ∧ (parseMethodDescriptor yX5_says.desc).map (fun d => d.parameters.length) = some 2 := by decide +kernel
abbrev rmX5_says : Room := { frames := 2, cells := 0, slots := 0, locals := 45 }
set_option maxHeartbeats 4000000 in
set_option maxRecDepth 100000 in
theorem k_X5_says (l : Launch) (D : va_G) (K : Nat → ClassId) (q : Nat → Nat) (vweight : Nat → Int32) (vkind : Nat → Int32) (vrhymes : Nat → Int32) (vpurse : Nat → Int32) (vhas : Nat → Int32) (vwishes : Nat → Int32) (vwishMany : Int32) (vsightLeft : Nat → Int32) (vsightRight : Nat → Int32) (vsightHow : Nat → Int32) (vsights : Int32) (vpad : Nat → Int32) (vpadMany : Int32) (vact : Nat → Int32) (vwho : Nat → Int32) (vwhich : Nat → Int32) (vwhom : Nat → Int32) (vacts : Int32) (vplace : Int32) (vopenMany : Int32) (vended : Int32) (vspoken : Int32) (vheaviest : Int32) (vheaviestWeight : Int32) (vhad : Nat → Int32) (vbadAct : Int32) (vbadWhy : Int32) (vbrings : Nat → Int64) (vbringsThen : Nat → Int64) (vkept : Nat → Int32) (visKept : Nat → Int32) (vkeptAt : Int32) (visWriting : Int32) (p0 : Int32) (p1 : Int32) (out : Int64) (hf : f_X5_says vkind vhas p0 p1 = some out) : kL l D K yX5_says wsX5_says rmX5_says [.ref (q 0), .int p0, .int p1] (mdW K q vweight vkind vrhymes vpurse vhas vwishes vwishMany vsightLeft vsightRight vsightHow vsights vpad vpadMany vact vwho vwhich vwhom vacts vplace vopenMany vended vspoken vheaviest vheaviestWeight vhad vbadAct vbadWhy vbrings vbringsThen vkept visKept vkeptAt visWriting) out (mdW K q vweight vkind vrhymes vpurse vhas vwishes vwishMany vsightLeft vsightRight vsightHow vsights vpad vpadMany vact vwho vwhich vwhom vacts vplace vopenMany vended vspoken vheaviest vheaviestWeight vhad vbadAct vbadWhy vbrings vbringsThen vkept visKept vkeptAt visWriting) := by
  refine kL.of (cc := cX5_says) (maxL := 13) (by decide) rfl (Nat.le_of_ble_eq_true rfl) ?_
  intro p e s m args below meth c A H0 Q ls hx hb hml hown hts hK hN hA hP hD hS hl hret
  have hown : s.vm.findClass RX5 = some m.cls := hown
  have hl : lv_has ls 13 [(0, .ref (q 0)), (1, .int p0), (2, .int p1)] := hl
  generalize hH : H0 = H at hP ⊢
  have hS : va_S A H0 H [] := by rw [← hH]; exact hS
  clear hH
  unfold f_X5_says at hf
  refine lv_iload_n hx hb dX5_says_0 rfl (lv_at hl 1 rfl) ?_
  obtain ⟨o1, ho1, hf⟩ := bd_el hf
  refine kc0_i (D := D) (va_runS (As := [.int p0]) (rest := []) ⟨hx, hb, hml, hown, hts⟩ ((k_X5_isSpeaker l D K p0 o1 ho1) H.size) (va_cwS 1 hts gX5_says_X5_isSpeaker rfl rfl rfl yd_X5_isSpeaker ⟨Nat.le_of_ble_eq_true rfl, Nat.le_of_ble_eq_true rfl⟩) (kPreS va_P_nil (va_D_nil (A := fun _ => True)) hK hN) rfl rfl hl.1 rfl (lv_room (Nat.le_of_ble_eq_true rfl)) dX5_says_1 ⟨Nat.le_of_ble_eq_true rfl, Nat.le_of_ble_eq_true rfl⟩) hP hS hA (fun hzo1 H locs hP hS => ?_)
  refine lv_if_ne (tgt := 11) hx hb dX5_says_4 (by decide) (fun c2 => ?_) (fun c2 => ?_)
  · rw [if_neg c2] at hf
    refine lv_iload_n hx hb dX5_says_11 rfl (lv_at hl 2 rfl) ?_
    refine lv_i2l (v := p1.toInt64) hx hb dX5_says_12 rfl ?_
    refine lv_lconst (v := 1) hx hb dX5_says_13 (by decide) ?_
    refine lv_ldc2 hx hb hown (hts (.constantLong RX5 198 (8)) (List.mem_of_getElem? (i := 2) rfl)) dX5_says_14 ?_
    obtain ⟨o3, ho3, hf⟩ := bd_el hf
    refine kc0_i (D := D) (va_runS (As := [.long p1.toInt64, .long 1, .long 8]) (rest := []) ⟨hx, hb, hml, hown, hts⟩ ((k_X5_in l D K p1.toInt64 (1) (8) o3 ho3) H.size) (va_cwS 3 hts gX5_says_X5_in rfl rfl rfl yd_X5_in ⟨Nat.le_of_ble_eq_true rfl, Nat.le_of_ble_eq_true rfl⟩) (kPreS va_P_nil (va_D_nil (A := fun _ => True)) hK hN) rfl rfl hl.1 rfl (lv_room (Nat.le_of_ble_eq_true rfl)) dX5_says_17 ⟨Nat.le_of_ble_eq_true rfl, Nat.le_of_ble_eq_true rfl⟩) hP hS hA (fun hzo3 H locs hP hS => ?_)
    refine lv_if_ne (tgt := 27) hx hb dX5_says_20 (by decide) (fun c4 => ?_) (fun c4 => ?_)
    · rw [if_neg c4] at hf
      refine lv_aload_n hx hb dX5_says_27 rfl (lv_at hl 0 rfl) ?_
      refine lv_aload_n hx hb dX5_says_28 rfl (lv_at hl 0 rfl) ?_
      refine va_get (D := D) (ci := 5) (v := .ref (q 5)) (C := RX5) (T := TX5) (N := 33) hx hb hts inX5_says_X5 hown hK hP 0 rfl rfl 4 (by decide) (hts (.fieldLink RX5 22 "WordScalesModel" "has" "[I") (List.mem_of_getElem? (i := 4) rfl)) (fun _ h9 => h9) rfl dX5_says_29 ?_
      refine lv_iload_n hx hb dX5_says_32 rfl (lv_at hl 1 rfl) ?_
      obtain ⟨v5, hf⟩ := chk_el hf
      refine va_iald (D := D) (f := vhas) hx hb hK hP 5 0 rfl rfl v5 dX5_says_33 ?_
      refine lv_iconst (v := 0) hx hb dX5_says_34 (by decide) ?_
      obtain ⟨o6, ho6, hf⟩ := ob_el hf
      refine kcw_i (D := D) (va_runV (As := [.int (vhas (p0).toNatClampNeg), .int 0]) (rest := []) ⟨hx, hb, hml, hown, hts⟩ ((k_X5_manyOf l D K q vweight vkind vrhymes vpurse vhas vwishes vwishMany vsightLeft vsightRight vsightHow vsights vpad vpadMany vact vwho vwhich vwhom vacts vplace vopenMany vended vspoken vheaviest vheaviestWeight vhad vbadAct vbadWhy vbrings vbringsThen vkept visKept vkeptAt visWriting (vhas (p0).toNatClampNeg) (0) o6 ho6) H.size) (cwV 2 hts gX5_says_X5_manyOf rfl rfl rfl ⟨rfl, yd_X5_manyOf⟩ ⟨Nat.le_of_ble_eq_true rfl, Nat.le_of_ble_eq_true rfl⟩) (kPreV (ci := 5) (q0 := 0) hP rfl rfl hP hD hK hN) rfl rfl hl.1 rfl (lv_room (Nat.le_of_ble_eq_true rfl)) dX5_says_35 ⟨Nat.le_of_ble_eq_true rfl, Nat.le_of_ble_eq_true rfl⟩) hD hS hA (fun hzo6 H locs hP hD hS => ?_)
      have hP : va_P D vwCl (mdW K q vweight vkind vrhymes vpurse vhas vwishes vwishMany vsightLeft vsightRight vsightHow vsights vpad vpadMany vact vwho vwhich vwhom vacts vplace vopenMany vended vspoken vheaviest vheaviestWeight vhad vbadAct vbadWhy vbrings vbringsThen vkept visKept vkeptAt visWriting) H := hP
      have hD : va_D A (mdW K q vweight vkind vrhymes vpurse vhas vwishes vwishMany vsightLeft vsightRight vsightHow vsights vpad vpadMany vact vwho vwhich vwhom vacts vplace vopenMany vended vspoken vheaviest vheaviestWeight vhad vbadAct vbadWhy vbrings vbringsThen vkept visKept vkeptAt visWriting) := hD
      refine lv_i2l (v := o6.toInt64) hx hb dX5_says_38 rfl ?_
      refine lv_lstore_n (lv' := [(3, .long o6.toInt64), (0, .ref (q 0)), (1, .int p0), (2, .int p1)]) hx hb dX5_says_39 rfl hl (by decide) rfl (fun ls hl => ?_)
      refine lv_aload_n hx hb dX5_says_40 rfl (lv_at hl 1 rfl) ?_
      refine lv_aload_n hx hb dX5_says_41 rfl (lv_at hl 1 rfl) ?_
      refine va_get (D := D) (ci := 5) (v := .ref (q 5)) (C := RX5) (T := TX5) (N := 33) hx hb hts inX5_says_X5 hown hK hP 0 rfl rfl 4 (by decide) (hts (.fieldLink RX5 22 "WordScalesModel" "has" "[I") (List.mem_of_getElem? (i := 4) rfl)) (fun _ h9 => h9) rfl dX5_says_42 ?_
      refine lv_iload_n hx hb dX5_says_45 rfl (lv_at hl 2 rfl) ?_
      refine va_iald (D := D) (f := vhas) hx hb hK hP 5 0 rfl rfl v5 dX5_says_46 ?_
      refine lv_iconst (v := 1) hx hb dX5_says_47 (by decide) ?_
      obtain ⟨o7, ho7, hf⟩ := ob_el hf
      refine kcw_i (D := D) (va_runV (As := [.int (vhas (p0).toNatClampNeg), .int 1]) (rest := []) ⟨hx, hb, hml, hown, hts⟩ ((k_X5_manyOf l D K q vweight vkind vrhymes vpurse vhas vwishes vwishMany vsightLeft vsightRight vsightHow vsights vpad vpadMany vact vwho vwhich vwhom vacts vplace vopenMany vended vspoken vheaviest vheaviestWeight vhad vbadAct vbadWhy vbrings vbringsThen vkept visKept vkeptAt visWriting (vhas (p0).toNatClampNeg) (1) o7 ho7) H.size) (cwV 2 hts gX5_says_X5_manyOf rfl rfl rfl ⟨rfl, yd_X5_manyOf⟩ ⟨Nat.le_of_ble_eq_true rfl, Nat.le_of_ble_eq_true rfl⟩) (kPreV (ci := 5) (q0 := 0) hP rfl rfl hP hD hK hN) rfl rfl hl.1 rfl (lv_room (Nat.le_of_ble_eq_true rfl)) dX5_says_48 ⟨Nat.le_of_ble_eq_true rfl, Nat.le_of_ble_eq_true rfl⟩) hD hS hA (fun hzo7 H locs hP hD hS => ?_)
      have hP : va_P D vwCl (mdW K q vweight vkind vrhymes vpurse vhas vwishes vwishMany vsightLeft vsightRight vsightHow vsights vpad vpadMany vact vwho vwhich vwhom vacts vplace vopenMany vended vspoken vheaviest vheaviestWeight vhad vbadAct vbadWhy vbrings vbringsThen vkept visKept vkeptAt visWriting) H := hP
      have hD : va_D A (mdW K q vweight vkind vrhymes vpurse vhas vwishes vwishMany vsightLeft vsightRight vsightHow vsights vpad vpadMany vact vwho vwhich vwhom vacts vplace vopenMany vended vspoken vheaviest vheaviestWeight vhad vbadAct vbadWhy vbrings vbringsThen vkept visKept vkeptAt visWriting) := hD
      refine lv_i2l (v := o7.toInt64) hx hb dX5_says_51 rfl ?_
      refine lv_lstore (lv' := [(5, .long o7.toInt64), (3, .long o6.toInt64), (0, .ref (q 0)), (1, .int p0), (2, .int p1)]) hx hb dX5_says_52 hl (by decide) rfl (fun ls hl => ?_)
      refine lv_aload_n hx hb dX5_says_54 rfl (lv_at hl 2 rfl) ?_
      refine lv_aload_n hx hb dX5_says_55 rfl (lv_at hl 2 rfl) ?_
      refine va_get (D := D) (ci := 5) (v := .ref (q 5)) (C := RX5) (T := TX5) (N := 33) hx hb hts inX5_says_X5 hown hK hP 0 rfl rfl 4 (by decide) (hts (.fieldLink RX5 22 "WordScalesModel" "has" "[I") (List.mem_of_getElem? (i := 4) rfl)) (fun _ h9 => h9) rfl dX5_says_56 ?_
      refine lv_iload_n hx hb dX5_says_59 rfl (lv_at hl 3 rfl) ?_
      refine va_iald (D := D) (f := vhas) hx hb hK hP 5 0 rfl rfl v5 dX5_says_60 ?_
      refine lv_iconst (v := 2) hx hb dX5_says_61 (by decide) ?_
      obtain ⟨o8, ho8, hf⟩ := ob_el hf
      refine kcw_i (D := D) (va_runV (As := [.int (vhas (p0).toNatClampNeg), .int 2]) (rest := []) ⟨hx, hb, hml, hown, hts⟩ ((k_X5_manyOf l D K q vweight vkind vrhymes vpurse vhas vwishes vwishMany vsightLeft vsightRight vsightHow vsights vpad vpadMany vact vwho vwhich vwhom vacts vplace vopenMany vended vspoken vheaviest vheaviestWeight vhad vbadAct vbadWhy vbrings vbringsThen vkept visKept vkeptAt visWriting (vhas (p0).toNatClampNeg) (2) o8 ho8) H.size) (cwV 2 hts gX5_says_X5_manyOf rfl rfl rfl ⟨rfl, yd_X5_manyOf⟩ ⟨Nat.le_of_ble_eq_true rfl, Nat.le_of_ble_eq_true rfl⟩) (kPreV (ci := 5) (q0 := 0) hP rfl rfl hP hD hK hN) rfl rfl hl.1 rfl (lv_room (Nat.le_of_ble_eq_true rfl)) dX5_says_62 ⟨Nat.le_of_ble_eq_true rfl, Nat.le_of_ble_eq_true rfl⟩) hD hS hA (fun hzo8 H locs hP hD hS => ?_)
      have hP : va_P D vwCl (mdW K q vweight vkind vrhymes vpurse vhas vwishes vwishMany vsightLeft vsightRight vsightHow vsights vpad vpadMany vact vwho vwhich vwhom vacts vplace vopenMany vended vspoken vheaviest vheaviestWeight vhad vbadAct vbadWhy vbrings vbringsThen vkept visKept vkeptAt visWriting) H := hP
      have hD : va_D A (mdW K q vweight vkind vrhymes vpurse vhas vwishes vwishMany vsightLeft vsightRight vsightHow vsights vpad vpadMany vact vwho vwhich vwhom vacts vplace vopenMany vended vspoken vheaviest vheaviestWeight vhad vbadAct vbadWhy vbrings vbringsThen vkept visKept vkeptAt visWriting) := hD
      refine lv_i2l (v := o8.toInt64) hx hb dX5_says_65 rfl ?_
      refine lv_lstore (lv' := [(7, .long o8.toInt64), (5, .long o7.toInt64), (3, .long o6.toInt64), (0, .ref (q 0)), (1, .int p0), (2, .int p1)]) hx hb dX5_says_66 hl (by decide) rfl (fun ls hl => ?_)
      refine lv_iload_n hx hb dX5_says_68 rfl (lv_at hl 5 rfl) ?_
      refine lv_iconst (v := 2) hx hb dX5_says_69 (by decide) ?_
      refine lv_icmp_ge (tgt := 77) hx hb dX5_says_70 (by decide) (fun c9 => ?_) (fun c9 => ?_)
      · rw [if_pos c9] at hf
        refine lv_lload hx hb dX5_says_77 (lv_at hl 0 rfl) ?_
        refine lv_iload_n hx hb dX5_says_79 rfl (lv_at hl 5 rfl) ?_
        refine lv_iconst (v := 2) hx hb dX5_says_80 (by decide) ?_
        refine lv_isub hx hb dX5_says_81 ?_
        obtain ⟨o10, ho10, hf⟩ := ob_el hf
        refine kc0_l (D := D) (va_runS (As := [.long o8.toInt64, .int (p1 - 2)]) (rest := []) ⟨hx, hb, hml, hown, hts⟩ ((k_X5_times l D K o8.toInt64 (p1 - 2) o10 ho10) H.size) (va_cwS 2 hts gX5_says_X5_times rfl rfl rfl yd_X5_times ⟨Nat.le_of_ble_eq_true rfl, Nat.le_of_ble_eq_true rfl⟩) (kPreS va_P_nil (va_D_nil (A := fun _ => True)) hK hN) rfl rfl hl.1 rfl (lv_room (Nat.le_of_ble_eq_true rfl)) dX5_says_82 ⟨Nat.le_of_ble_eq_true rfl, Nat.le_of_ble_eq_true rfl⟩) hP hS hA (fun H locs hP hS => ?_)
        refine lv_lload_n hx hb dX5_says_85 rfl (lv_at hl 2 rfl) ?_
        refine lv_lmul hx hb dX5_says_86 ?_
        refine lv_lload hx hb dX5_says_87 (lv_at hl 1 rfl) ?_
        refine lv_lmul hx hb dX5_says_89 ?_
        refine lv_lstore (lv' := [(9, .long ((o10 * o6.toInt64) * o7.toInt64)), (7, .long o8.toInt64), (5, .long o7.toInt64), (3, .long o6.toInt64), (0, .ref (q 0)), (1, .int p0), (2, .int p1)]) hx hb dX5_says_90 hl (by decide) rfl (fun ls hl => ?_)
        refine lv_iload_n hx hb dX5_says_92 rfl (lv_at hl 6 rfl) ?_
        refine lv_iconst (v := 3) hx hb dX5_says_93 (by decide) ?_
        refine lv_icmp_ge (tgt := 101) hx hb dX5_says_94 (by decide) (fun c11 => ?_) (fun c11 => ?_)
        · rw [if_pos c11] at hf
          refine lv_iload_n hx hb dX5_says_101 rfl (lv_at hl 6 rfl) ?_
          refine lv_iconst (v := 2) hx hb dX5_says_102 (by decide) ?_
          refine lv_isub hx hb dX5_says_103 ?_
          refine lv_i2l (v := (p1 - 2).toInt64) hx hb dX5_says_104 rfl ?_
          refine lv_lload hx hb dX5_says_105 (lv_at hl 1 rfl) ?_
          refine lv_iload_n hx hb dX5_says_107 rfl (lv_at hl 6 rfl) ?_
          refine lv_iconst (v := 3) hx hb dX5_says_108 (by decide) ?_
          refine lv_isub hx hb dX5_says_109 ?_
          obtain ⟨o12, ho12, hf⟩ := ob_el hf
          refine kc0_l (D := D) (va_runS (As := [.long o8.toInt64, .int (p1 - 3)]) (rest := [.long ((p1 - 2).toInt64)]) ⟨hx, hb, hml, hown, hts⟩ ((k_X5_times l D K o8.toInt64 (p1 - 3) o12 ho12) H.size) (va_cwS 2 hts gX5_says_X5_times rfl rfl rfl yd_X5_times ⟨Nat.le_of_ble_eq_true rfl, Nat.le_of_ble_eq_true rfl⟩) (kPreS va_P_nil (va_D_nil (A := fun _ => True)) hK hN) rfl rfl hl.1 rfl (lv_room (Nat.le_of_ble_eq_true rfl)) dX5_says_110 ⟨Nat.le_of_ble_eq_true rfl, Nat.le_of_ble_eq_true rfl⟩) hP hS hA (fun H locs hP hS => ?_)
          refine lv_lmul hx hb dX5_says_113 ?_
          refine lv_lload_n hx hb dX5_says_114 rfl (lv_at hl 3 rfl) ?_
          refine lv_lmul hx hb dX5_says_115 ?_
          refine lv_lload hx hb dX5_says_116 (lv_at hl 2 rfl) ?_
          refine lv_lmul hx hb dX5_says_118 ?_
          refine lv_lload_n hx hb dX5_says_119 rfl (lv_at hl 3 rfl) ?_
          refine lv_lmul hx hb dX5_says_120 ?_
          refine lv_lstore (lv' := [(11, .long (((((p1 - 2).toInt64 * o12) * o6.toInt64) * o7.toInt64) * o6.toInt64)), (9, .long ((o10 * o6.toInt64) * o7.toInt64)), (7, .long o8.toInt64), (5, .long o7.toInt64), (3, .long o6.toInt64), (0, .ref (q 0)), (1, .int p0), (2, .int p1)]) hx hb dX5_says_121 hl (by decide) rfl (fun ls hl => ?_)
          refine lv_lload hx hb dX5_says_123 (lv_at hl 1 rfl) ?_
          refine lv_lload hx hb dX5_says_125 (lv_at hl 0 rfl) ?_
          refine lv_ladd hx hb dX5_says_127 ?_
          obtain rfl := Option.some.inj hf
          exact hret rfl rfl hP hD hS dX5_says_128
        · rw [if_neg c11] at hf
          refine lv_lconst (v := 0) hx hb dX5_says_97 (by decide) ?_
          refine lv_goto (tgt := 121) hx hb dX5_says_98 (by decide) ?_
          refine lv_lstore (lv' := [(11, .long 0), (9, .long ((o10 * o6.toInt64) * o7.toInt64)), (7, .long o8.toInt64), (5, .long o7.toInt64), (3, .long o6.toInt64), (0, .ref (q 0)), (1, .int p0), (2, .int p1)]) hx hb dX5_says_121 hl (by decide) rfl (fun ls hl => ?_)
          refine lv_lload hx hb dX5_says_123 (lv_at hl 1 rfl) ?_
          refine lv_lload hx hb dX5_says_125 (lv_at hl 0 rfl) ?_
          refine lv_ladd hx hb dX5_says_127 ?_
          obtain rfl := Option.some.inj hf
          exact hret rfl rfl hP hD hS dX5_says_128
      · rw [if_neg c9] at hf
        refine lv_lconst (v := 0) hx hb dX5_says_73 (by decide) ?_
        refine lv_goto (tgt := 90) hx hb dX5_says_74 (by decide) ?_
        refine lv_lstore (lv' := [(9, .long 0), (7, .long o8.toInt64), (5, .long o7.toInt64), (3, .long o6.toInt64), (0, .ref (q 0)), (1, .int p0), (2, .int p1)]) hx hb dX5_says_90 hl (by decide) rfl (fun ls hl => ?_)
        refine lv_iload_n hx hb dX5_says_92 rfl (lv_at hl 6 rfl) ?_
        refine lv_iconst (v := 3) hx hb dX5_says_93 (by decide) ?_
        refine lv_icmp_ge (tgt := 101) hx hb dX5_says_94 (by decide) (fun c13 => ?_) (fun c13 => ?_)
        · rw [if_pos c13] at hf
          refine lv_iload_n hx hb dX5_says_101 rfl (lv_at hl 6 rfl) ?_
          refine lv_iconst (v := 2) hx hb dX5_says_102 (by decide) ?_
          refine lv_isub hx hb dX5_says_103 ?_
          refine lv_i2l (v := (p1 - 2).toInt64) hx hb dX5_says_104 rfl ?_
          refine lv_lload hx hb dX5_says_105 (lv_at hl 1 rfl) ?_
          refine lv_iload_n hx hb dX5_says_107 rfl (lv_at hl 6 rfl) ?_
          refine lv_iconst (v := 3) hx hb dX5_says_108 (by decide) ?_
          refine lv_isub hx hb dX5_says_109 ?_
          obtain ⟨o14, ho14, hf⟩ := ob_el hf
          refine kc0_l (D := D) (va_runS (As := [.long o8.toInt64, .int (p1 - 3)]) (rest := [.long ((p1 - 2).toInt64)]) ⟨hx, hb, hml, hown, hts⟩ ((k_X5_times l D K o8.toInt64 (p1 - 3) o14 ho14) H.size) (va_cwS 2 hts gX5_says_X5_times rfl rfl rfl yd_X5_times ⟨Nat.le_of_ble_eq_true rfl, Nat.le_of_ble_eq_true rfl⟩) (kPreS va_P_nil (va_D_nil (A := fun _ => True)) hK hN) rfl rfl hl.1 rfl (lv_room (Nat.le_of_ble_eq_true rfl)) dX5_says_110 ⟨Nat.le_of_ble_eq_true rfl, Nat.le_of_ble_eq_true rfl⟩) hP hS hA (fun H locs hP hS => ?_)
          refine lv_lmul hx hb dX5_says_113 ?_
          refine lv_lload_n hx hb dX5_says_114 rfl (lv_at hl 3 rfl) ?_
          refine lv_lmul hx hb dX5_says_115 ?_
          refine lv_lload hx hb dX5_says_116 (lv_at hl 2 rfl) ?_
          refine lv_lmul hx hb dX5_says_118 ?_
          refine lv_lload_n hx hb dX5_says_119 rfl (lv_at hl 3 rfl) ?_
          refine lv_lmul hx hb dX5_says_120 ?_
          refine lv_lstore (lv' := [(11, .long (((((p1 - 2).toInt64 * o14) * o6.toInt64) * o7.toInt64) * o6.toInt64)), (9, .long 0), (7, .long o8.toInt64), (5, .long o7.toInt64), (3, .long o6.toInt64), (0, .ref (q 0)), (1, .int p0), (2, .int p1)]) hx hb dX5_says_121 hl (by decide) rfl (fun ls hl => ?_)
          refine lv_lload hx hb dX5_says_123 (lv_at hl 1 rfl) ?_
          refine lv_lload hx hb dX5_says_125 (lv_at hl 0 rfl) ?_
          refine lv_ladd hx hb dX5_says_127 ?_
          obtain rfl := Option.some.inj hf
          exact hret rfl rfl hP hD hS dX5_says_128
        · rw [if_neg c13] at hf
          refine lv_lconst (v := 0) hx hb dX5_says_97 (by decide) ?_
          refine lv_goto (tgt := 121) hx hb dX5_says_98 (by decide) ?_
          refine lv_lstore (lv' := [(11, .long 0), (9, .long 0), (7, .long o8.toInt64), (5, .long o7.toInt64), (3, .long o6.toInt64), (0, .ref (q 0)), (1, .int p0), (2, .int p1)]) hx hb dX5_says_121 hl (by decide) rfl (fun ls hl => ?_)
          refine lv_lload hx hb dX5_says_123 (lv_at hl 1 rfl) ?_
          refine lv_lload hx hb dX5_says_125 (lv_at hl 0 rfl) ?_
          refine lv_ladd hx hb dX5_says_127 ?_
          obtain rfl := Option.some.inj hf
          exact hret rfl rfl hP hD hS dX5_says_128
    · rw [if_pos c4] at hf
      refine lv_ldc2 hx hb hown (hts (.constantLong RX5 200 (-2)) (List.mem_of_getElem? (i := 3) rfl)) dX5_says_23 ?_
      obtain rfl := Option.some.inj hf
      exact hret rfl rfl hP hD hS dX5_says_26
  · rw [if_pos c2] at hf
    refine lv_ldc2 hx hb hown (hts (.constantLong RX5 196 (-1)) (List.mem_of_getElem? (i := 1) rfl)) dX5_says_7 ?_
    obtain rfl := Option.some.inj hf
    exact hret rfl rfl hP hD hS dX5_says_10
def f_X5_isSentence (vkind : Nat → Int32) (p0 : Int32) (p1 : Int32) : Option (Int32) := ob (f_X5_manyOf vkind p0 (0)) (fun o1 => ob (f_X5_ones p0) (fun o2 => if o2 = p1 then (ob (f_X5_manyOf vkind p0 (1)) (fun o4 => if o4 = 1 then (if o1 = 1 then (some 1) else (if o1 = 2 then (some 1) else (some 0))) else (some 0))) else (some 0)))
theorem yd_X5_isSentence : yX5_isSentence.cls ≠ "java/lang/invoke/MethodHandle" ∧ yX5_isSentence.cls ≠ "java/lang/invoke/VarHandle" ∧ (parseMethodDescriptor yX5_isSentence.desc).map (fun d => d.parameters.length) = some 2 := by decide +kernel
abbrev rmX5_isSentence : Room := { frames := 1, cells := 0, slots := 0, locals := 24 }
set_option maxHeartbeats 4000000 in
set_option maxRecDepth 100000 in
theorem k_X5_isSentence (l : Launch) (D : va_G) (K : Nat → ClassId) (q : Nat → Nat) (vweight : Nat → Int32) (vkind : Nat → Int32) (vrhymes : Nat → Int32) (vpurse : Nat → Int32) (vhas : Nat → Int32) (vwishes : Nat → Int32) (vwishMany : Int32) (vsightLeft : Nat → Int32) (vsightRight : Nat → Int32) (vsightHow : Nat → Int32) (vsights : Int32) (vpad : Nat → Int32) (vpadMany : Int32) (vact : Nat → Int32) (vwho : Nat → Int32) (vwhich : Nat → Int32) (vwhom : Nat → Int32) (vacts : Int32) (vplace : Int32) (vopenMany : Int32) (vended : Int32) (vspoken : Int32) (vheaviest : Int32) (vheaviestWeight : Int32) (vhad : Nat → Int32) (vbadAct : Int32) (vbadWhy : Int32) (vbrings : Nat → Int64) (vbringsThen : Nat → Int64) (vkept : Nat → Int32) (visKept : Nat → Int32) (vkeptAt : Int32) (visWriting : Int32) (p0 : Int32) (p1 : Int32) (out : Int32) (hf : f_X5_isSentence vkind p0 p1 = some out) : kI l D K .boolean yX5_isSentence wsX5_isSentence rmX5_isSentence [.ref (q 0), .int p0, .int p1] (mdW K q vweight vkind vrhymes vpurse vhas vwishes vwishMany vsightLeft vsightRight vsightHow vsights vpad vpadMany vact vwho vwhich vwhom vacts vplace vopenMany vended vspoken vheaviest vheaviestWeight vhad vbadAct vbadWhy vbrings vbringsThen vkept visKept vkeptAt visWriting) out (mdW K q vweight vkind vrhymes vpurse vhas vwishes vwishMany vsightLeft vsightRight vsightHow vsights vpad vpadMany vact vwho vwhich vwhom vacts vplace vopenMany vended vspoken vheaviest vheaviestWeight vhad vbadAct vbadWhy vbrings vbringsThen vkept visKept vkeptAt visWriting) := by
  refine kI.of (cc := cX5_isSentence) (maxL := 4) (by decide) rfl (Nat.le_of_ble_eq_true rfl) ?_
  intro p e s m args below meth c A H0 Q ls hx hb hml hown hts hK hN hA hP hD hS hl hret
  have hown : s.vm.findClass RX5 = some m.cls := hown
  have hl : lv_has ls 4 [(0, .ref (q 0)), (1, .int p0), (2, .int p1)] := hl
  generalize hH : H0 = H at hP ⊢
  have hS : va_S A H0 H [] := by rw [← hH]; exact hS
  clear hH
  unfold f_X5_isSentence at hf
  refine lv_aload_n hx hb dX5_isSentence_0 rfl (lv_at hl 0 rfl) ?_
  refine lv_iload_n hx hb dX5_isSentence_1 rfl (lv_at hl 1 rfl) ?_
  refine lv_iconst (v := 0) hx hb dX5_isSentence_2 (by decide) ?_
  obtain ⟨o1, ho1, hf⟩ := ob_el hf
  refine kcw_i (D := D) (va_runV (As := [.int p0, .int 0]) (rest := []) ⟨hx, hb, hml, hown, hts⟩ ((k_X5_manyOf l D K q vweight vkind vrhymes vpurse vhas vwishes vwishMany vsightLeft vsightRight vsightHow vsights vpad vpadMany vact vwho vwhich vwhom vacts vplace vopenMany vended vspoken vheaviest vheaviestWeight vhad vbadAct vbadWhy vbrings vbringsThen vkept visKept vkeptAt visWriting p0 (0) o1 ho1) H.size) (cwV 2 hts gX5_isSentence_X5_manyOf rfl rfl rfl ⟨rfl, yd_X5_manyOf⟩ ⟨Nat.le_of_ble_eq_true rfl, Nat.le_of_ble_eq_true rfl⟩) (kPreV (ci := 5) (q0 := 0) hP rfl rfl hP hD hK hN) rfl rfl hl.1 rfl (lv_room (Nat.le_of_ble_eq_true rfl)) dX5_isSentence_3 ⟨Nat.le_of_ble_eq_true rfl, Nat.le_of_ble_eq_true rfl⟩) hD hS hA (fun hzo1 H locs hP hD hS => ?_)
  have hP : va_P D vwCl (mdW K q vweight vkind vrhymes vpurse vhas vwishes vwishMany vsightLeft vsightRight vsightHow vsights vpad vpadMany vact vwho vwhich vwhom vacts vplace vopenMany vended vspoken vheaviest vheaviestWeight vhad vbadAct vbadWhy vbrings vbringsThen vkept visKept vkeptAt visWriting) H := hP
  have hD : va_D A (mdW K q vweight vkind vrhymes vpurse vhas vwishes vwishMany vsightLeft vsightRight vsightHow vsights vpad vpadMany vact vwho vwhich vwhom vacts vplace vopenMany vended vspoken vheaviest vheaviestWeight vhad vbadAct vbadWhy vbrings vbringsThen vkept visKept vkeptAt visWriting) := hD
  refine lv_istore_n (lv' := [(3, .int o1), (0, .ref (q 0)), (1, .int p0), (2, .int p1)]) hx hb dX5_isSentence_6 rfl hl (by decide) rfl (fun ls hl => ?_)
  refine lv_iload_n hx hb dX5_isSentence_7 rfl (lv_at hl 2 rfl) ?_
  obtain ⟨o2, ho2, hf⟩ := ob_el hf
  refine kc0_i (D := D) (va_runS (As := [.int p0]) (rest := []) ⟨hx, hb, hml, hown, hts⟩ ((k_X5_ones l D K p0 o2 ho2) H.size) (va_cwS 1 hts gX5_isSentence_X5_ones rfl rfl rfl yd_X5_ones ⟨Nat.le_of_ble_eq_true rfl, Nat.le_of_ble_eq_true rfl⟩) (kPreS va_P_nil (va_D_nil (A := fun _ => True)) hK hN) rfl rfl hl.1 rfl (lv_room (Nat.le_of_ble_eq_true rfl)) dX5_isSentence_8 ⟨Nat.le_of_ble_eq_true rfl, Nat.le_of_ble_eq_true rfl⟩) hP hS hA (fun hzo2 H locs hP hS => ?_)
  refine lv_iload_n hx hb dX5_isSentence_11 rfl (lv_at hl 3 rfl) ?_
  refine lv_icmp_ne (tgt := 39) hx hb dX5_isSentence_12 (by decide) (fun c3 => ?_) (fun c3 => ?_)
  · rw [if_neg c3] at hf
    refine lv_iconst (v := 0) hx hb dX5_isSentence_39 (by decide) ?_
    obtain rfl := Option.some.inj hf
    exact hret rfl rfl rfl hP hD hS dX5_isSentence_40
  · rw [if_pos c3] at hf
    refine lv_aload_n hx hb dX5_isSentence_15 rfl (lv_at hl 1 rfl) ?_
    refine lv_iload_n hx hb dX5_isSentence_16 rfl (lv_at hl 2 rfl) ?_
    refine lv_iconst (v := 1) hx hb dX5_isSentence_17 (by decide) ?_
    obtain ⟨o4, ho4, hf⟩ := ob_el hf
    refine kcw_i (D := D) (va_runV (As := [.int p0, .int 1]) (rest := []) ⟨hx, hb, hml, hown, hts⟩ ((k_X5_manyOf l D K q vweight vkind vrhymes vpurse vhas vwishes vwishMany vsightLeft vsightRight vsightHow vsights vpad vpadMany vact vwho vwhich vwhom vacts vplace vopenMany vended vspoken vheaviest vheaviestWeight vhad vbadAct vbadWhy vbrings vbringsThen vkept visKept vkeptAt visWriting p0 (1) o4 ho4) H.size) (cwV 2 hts gX5_isSentence_X5_manyOf rfl rfl rfl ⟨rfl, yd_X5_manyOf⟩ ⟨Nat.le_of_ble_eq_true rfl, Nat.le_of_ble_eq_true rfl⟩) (kPreV (ci := 5) (q0 := 0) hP rfl rfl hP hD hK hN) rfl rfl hl.1 rfl (lv_room (Nat.le_of_ble_eq_true rfl)) dX5_isSentence_18 ⟨Nat.le_of_ble_eq_true rfl, Nat.le_of_ble_eq_true rfl⟩) hD hS hA (fun hzo4 H locs hP hD hS => ?_)
    have hP : va_P D vwCl (mdW K q vweight vkind vrhymes vpurse vhas vwishes vwishMany vsightLeft vsightRight vsightHow vsights vpad vpadMany vact vwho vwhich vwhom vacts vplace vopenMany vended vspoken vheaviest vheaviestWeight vhad vbadAct vbadWhy vbrings vbringsThen vkept visKept vkeptAt visWriting) H := hP
    have hD : va_D A (mdW K q vweight vkind vrhymes vpurse vhas vwishes vwishMany vsightLeft vsightRight vsightHow vsights vpad vpadMany vact vwho vwhich vwhom vacts vplace vopenMany vended vspoken vheaviest vheaviestWeight vhad vbadAct vbadWhy vbrings vbringsThen vkept visKept vkeptAt visWriting) := hD
    refine lv_iconst (v := 1) hx hb dX5_isSentence_21 (by decide) ?_
    refine lv_icmp_ne (tgt := 39) hx hb dX5_isSentence_22 (by decide) (fun c5 => ?_) (fun c5 => ?_)
    · rw [if_neg c5] at hf
      refine lv_iconst (v := 0) hx hb dX5_isSentence_39 (by decide) ?_
      obtain rfl := Option.some.inj hf
      exact hret rfl rfl rfl hP hD hS dX5_isSentence_40
    · rw [if_pos c5] at hf
      refine lv_iload_n hx hb dX5_isSentence_25 rfl (lv_at hl 0 rfl) ?_
      refine lv_iconst (v := 1) hx hb dX5_isSentence_26 (by decide) ?_
      refine lv_icmp_eq (tgt := 35) hx hb dX5_isSentence_27 (by decide) (fun c6 => ?_) (fun c6 => ?_)
      · rw [if_pos c6] at hf
        refine lv_iconst (v := 1) hx hb dX5_isSentence_35 (by decide) ?_
        refine lv_goto (tgt := 40) hx hb dX5_isSentence_36 (by decide) ?_
        obtain rfl := Option.some.inj hf
        exact hret rfl rfl rfl hP hD hS dX5_isSentence_40
      · rw [if_neg c6] at hf
        refine lv_iload_n hx hb dX5_isSentence_30 rfl (lv_at hl 0 rfl) ?_
        refine lv_iconst (v := 2) hx hb dX5_isSentence_31 (by decide) ?_
        refine lv_icmp_ne (tgt := 39) hx hb dX5_isSentence_32 (by decide) (fun c7 => ?_) (fun c7 => ?_)
        · rw [if_neg c7] at hf
          refine lv_iconst (v := 0) hx hb dX5_isSentence_39 (by decide) ?_
          obtain rfl := Option.some.inj hf
          exact hret rfl rfl rfl hP hD hS dX5_isSentence_40
        · rw [if_pos c7] at hf
          refine lv_iconst (v := 1) hx hb dX5_isSentence_35 (by decide) ?_
          refine lv_goto (tgt := 40) hx hb dX5_isSentence_36 (by decide) ?_
          obtain rfl := Option.some.inj hf
          exact hret rfl rfl rfl hP hD hS dX5_isSentence_40
def s_X5_costOf_4 (vweight : Nat → Int32) (p0 : Int32) (x : Int32 × Int32) : Option ((Int32 × Int32) ⊕ (Int32 × Int32)) := if 12 ≤ x.2 then (some (.inr (x.1, x.2))) else (if ((p0 >>> (x.2 &&& 31)) &&& 1) = 1 then (chk x.2 12 (some (.inl ((x.1 + (vweight (x.2).toNatClampNeg)), (x.2 + 1))))) else (some (.inl ((x.1 + 0), (x.2 + 1)))))
def f_X5_costOf (vweight : Nat → Int32) (p0 : Int32) : Option (Int32) := ob (wh (s_X5_costOf_4 vweight p0) 5000 (0, 0)) (fun r1 => some r1.1)
theorem inX5_costOf_X5 : ∀ w ∈ wsX50, w ∈ wsX5_costOf := fun w h => List.mem_cons_of_mem _ (List.mem_append_right _ h)
theorem yd_X5_costOf : yX5_costOf.cls ≠ "java/lang/invoke/MethodHandle" ∧ yX5_costOf.cls ≠ "java/lang/invoke/VarHandle" ∧ (parseMethodDescriptor yX5_costOf.desc).map (fun d => d.parameters.length) = some 1 := by decide +kernel
abbrev rmX5_costOf : Room := { frames := 0, cells := 0, slots := 0, locals := 0 }
set_option maxHeartbeats 4000000 in
set_option maxRecDepth 100000 in
theorem k_X5_costOf (l : Launch) (D : va_G) (K : Nat → ClassId) (q : Nat → Nat) (vweight : Nat → Int32) (vkind : Nat → Int32) (vrhymes : Nat → Int32) (vpurse : Nat → Int32) (vhas : Nat → Int32) (vwishes : Nat → Int32) (vwishMany : Int32) (vsightLeft : Nat → Int32) (vsightRight : Nat → Int32) (vsightHow : Nat → Int32) (vsights : Int32) (vpad : Nat → Int32) (vpadMany : Int32) (vact : Nat → Int32) (vwho : Nat → Int32) (vwhich : Nat → Int32) (vwhom : Nat → Int32) (vacts : Int32) (vplace : Int32) (vopenMany : Int32) (vended : Int32) (vspoken : Int32) (vheaviest : Int32) (vheaviestWeight : Int32) (vhad : Nat → Int32) (vbadAct : Int32) (vbadWhy : Int32) (vbrings : Nat → Int64) (vbringsThen : Nat → Int64) (vkept : Nat → Int32) (visKept : Nat → Int32) (vkeptAt : Int32) (visWriting : Int32) (p0 : Int32) (out : Int32) (hf : f_X5_costOf vweight p0 = some out) : kI l D K .int yX5_costOf wsX5_costOf rmX5_costOf [.ref (q 0), .int p0] (mdW K q vweight vkind vrhymes vpurse vhas vwishes vwishMany vsightLeft vsightRight vsightHow vsights vpad vpadMany vact vwho vwhich vwhom vacts vplace vopenMany vended vspoken vheaviest vheaviestWeight vhad vbadAct vbadWhy vbrings vbringsThen vkept visKept vkeptAt visWriting) out (mdW K q vweight vkind vrhymes vpurse vhas vwishes vwishMany vsightLeft vsightRight vsightHow vsights vpad vpadMany vact vwho vwhich vwhom vacts vplace vopenMany vended vspoken vheaviest vheaviestWeight vhad vbadAct vbadWhy vbrings vbringsThen vkept visKept vkeptAt visWriting) := by
  refine kI.of (cc := cX5_costOf) (maxL := 4) (by decide) rfl (Nat.le_of_ble_eq_true rfl) ?_
  intro p e s m args below meth c A H0 Q ls hx hb hml hown hts hK hN hA hP hD hS hl hret
  have hown : s.vm.findClass RX5 = some m.cls := hown
  have hl : lv_has ls 4 [(0, .ref (q 0)), (1, .int p0)] := hl
  generalize hH : H0 = H at hP ⊢
  have hS : va_S A H0 H [] := by rw [← hH]; exact hS
  clear hH
  unfold f_X5_costOf at hf
  refine lv_iconst (v := 0) hx hb dX5_costOf_0 (by decide) ?_
  refine lv_istore_n (lv' := [(2, .int 0), (0, .ref (q 0)), (1, .int p0)]) hx hb dX5_costOf_1 rfl hl (by decide) rfl (fun ls hl => ?_)
  refine lv_iconst (v := 0) hx hb dX5_costOf_2 (by decide) ?_
  refine lv_istore_n (lv' := [(3, .int 0), (2, .int 0), (0, .ref (q 0)), (1, .int p0)]) hx hb dX5_costOf_3 rfl hl (by decide) rfl (fun ls hl => ?_)
  obtain ⟨r1, hr1, hf⟩ := ob_el hf
  have post4 : ∀ (e4_l2 : Int32) (e4_l3 : Int32) (H : Heap) (locs : List Loc) (ls : Array Slot), (some e4_l2) = some out → va_P D vwCl (mdW K q vweight vkind vrhymes vpurse vhas vwishes vwishMany vsightLeft vsightRight vsightHow vsights vpad vpadMany vact vwho vwhich vwhom vacts vplace vopenMany vended vspoken vheaviest vheaviestWeight vhad vbadAct vbadWhy vbrings vbringsThen vkept visKept vkeptAt visWriting) H → va_D A (mdW K q vweight vkind vrhymes vpurse vhas vwishes vwishMany vsightLeft vsightRight vsightHow vsights vpad vpadMany vact vwho vwhich vwhom vacts vplace vopenMany vended vspoken vheaviest vheaviestWeight vhad vbadAct vbadWhy vbrings vbringsThen vkept visKept vkeptAt visWriting) → va_S A H0 H locs → lv_has ls 4 [(3, .int e4_l3), (2, .int e4_l2), (0, .ref (q 0)), (1, .int p0)] → W p l e rmX5_costOf s m args below meth c H locs 0 0 Q (F0 m 38 ls []) := by
    intro e4_l2 e4_l3 H locs ls hf hP hD hS hl
    refine lv_iload_n hx hb dX5_costOf_38 rfl (lv_at hl 1 rfl) ?_
    obtain rfl := Option.some.inj hf
    exact hret rfl rfl rfl hP hD hS dX5_costOf_39
  have lp4 : ∀ (fu : Nat) (x4_l2 : Int32) (x4_l3 : Int32) (H : Heap) (locs : List Loc) (ls : Array Slot), wh (s_X5_costOf_4 vweight p0) fu (x4_l2, x4_l3) = some r1 → va_P D vwCl (mdW K q vweight vkind vrhymes vpurse vhas vwishes vwishMany vsightLeft vsightRight vsightHow vsights vpad vpadMany vact vwho vwhich vwhom vacts vplace vopenMany vended vspoken vheaviest vheaviestWeight vhad vbadAct vbadWhy vbrings vbringsThen vkept visKept vkeptAt visWriting) H → va_D A (mdW K q vweight vkind vrhymes vpurse vhas vwishes vwishMany vsightLeft vsightRight vsightHow vsights vpad vpadMany vact vwho vwhich vwhom vacts vplace vopenMany vended vspoken vheaviest vheaviestWeight vhad vbadAct vbadWhy vbrings vbringsThen vkept visKept vkeptAt visWriting) → va_S A H0 H locs → lv_has ls 4 [(3, .int x4_l3), (2, .int x4_l2), (0, .ref (q 0)), (1, .int p0)] → W p l e rmX5_costOf s m args below meth c H locs 0 0 Q (F0 m 4 ls []) := by
    intro fu
    induction fu with
    | zero => intro x4_l2 x4_l3 H locs ls hw4; cases hw4
    | succ fu ih4 =>
      intro x4_l2 x4_l3 H locs ls hw4 hP hD hS hl
      obtain ⟨o4_, hs4, hw4⟩ := wh_el hw4
      unfold s_X5_costOf_4 at hs4
      dsimp only at hs4
      refine lv_iload_n hx hb dX5_costOf_4 rfl (lv_at hl 0 rfl) ?_
      refine lv_bipush (v := 12) hx hb dX5_costOf_5 (by decide) ?_
      refine lv_icmp_ge (tgt := 38) hx hb dX5_costOf_7 (by decide) (fun c2 => ?_) (fun c2 => ?_)
      · rw [if_pos c2] at hs4
        obtain rfl := Option.some.inj hs4
        have e9 := Option.some.inj hw4
        rw [← e9] at hf
        exact post4 _ _ _ _ _ hf hP hD hS (lv_sub hl [0, 1, 2, 3] rfl)
      · rw [if_neg c2] at hs4
        refine lv_iload_n hx hb dX5_costOf_10 rfl (lv_at hl 1 rfl) ?_
        refine lv_iload_n hx hb dX5_costOf_11 rfl (lv_at hl 3 rfl) ?_
        refine lv_iload_n hx hb dX5_costOf_12 rfl (lv_at hl 0 rfl) ?_
        refine lv_ishr hx hb dX5_costOf_13 ?_
        refine lv_iconst (v := 1) hx hb dX5_costOf_14 (by decide) ?_
        refine lv_iand hx hb dX5_costOf_15 ?_
        refine lv_iconst (v := 1) hx hb dX5_costOf_16 (by decide) ?_
        refine lv_icmp_ne (tgt := 29) hx hb dX5_costOf_17 (by decide) (fun c3 => ?_) (fun c3 => ?_)
        · rw [if_neg c3] at hs4
          refine lv_iconst (v := 0) hx hb dX5_costOf_29 (by decide) ?_
          refine lv_iadd hx hb dX5_costOf_30 ?_
          refine lv_istore_n (lv' := [(2, .int (x4_l2 + 0)), (3, .int x4_l3), (0, .ref (q 0)), (1, .int p0)]) hx hb dX5_costOf_31 rfl hl (by decide) rfl (fun ls hl => ?_)
          refine lv_iinc (v := (x4_l3 + 1)) (lv' := [(3, .int (x4_l3 + 1)), (2, .int (x4_l2 + 0)), (0, .ref (q 0)), (1, .int p0)]) hx hb dX5_costOf_32 hl (k := 1) rfl (by rfl) (by decide) rfl (fun ls hl => ?_)
          refine lv_goto (tgt := 4) hx hb dX5_costOf_35 (by decide) ?_
          obtain rfl := Option.some.inj hs4
          exact ih4 _ _ _ _ _ hw4 hP hD hS (lv_sub hl [0, 1, 2, 3] rfl)
        · rw [if_pos c3] at hs4
          refine lv_aload_n hx hb dX5_costOf_20 rfl (lv_at hl 2 rfl) ?_
          refine va_get (D := D) (ci := 5) (v := .ref (q 1)) (C := RX5) (T := TX5) (N := 33) hx hb hts inX5_costOf_X5 hown hK hP 0 rfl rfl 0 (by decide) (hts (.fieldLink RX5 7 "WordScalesModel" "weight" "[I") (List.mem_of_getElem? (i := 1) rfl)) (fun _ h9 => h9) rfl dX5_costOf_21 ?_
          refine lv_iload_n hx hb dX5_costOf_24 rfl (lv_at hl 0 rfl) ?_
          obtain ⟨v4, hs4⟩ := chk_el hs4
          refine va_iald (D := D) (f := vweight) hx hb hK hP 1 0 rfl rfl v4 dX5_costOf_25 ?_
          refine lv_goto (tgt := 30) hx hb dX5_costOf_26 (by decide) ?_
          refine lv_iadd hx hb dX5_costOf_30 ?_
          refine lv_istore_n (lv' := [(2, .int (x4_l2 + (vweight (x4_l3).toNatClampNeg))), (3, .int x4_l3), (0, .ref (q 0)), (1, .int p0)]) hx hb dX5_costOf_31 rfl hl (by decide) rfl (fun ls hl => ?_)
          refine lv_iinc (v := (x4_l3 + 1)) (lv' := [(3, .int (x4_l3 + 1)), (2, .int (x4_l2 + (vweight (x4_l3).toNatClampNeg))), (0, .ref (q 0)), (1, .int p0)]) hx hb dX5_costOf_32 hl (k := 1) rfl (by rfl) (by decide) rfl (fun ls hl => ?_)
          refine lv_goto (tgt := 4) hx hb dX5_costOf_35 (by decide) ?_
          obtain rfl := Option.some.inj hs4
          exact ih4 _ _ _ _ _ hw4 hP hD hS (lv_sub hl [0, 1, 2, 3] rfl)
  exact lp4 5000 _ _ _ _ _ hr1 hP hD hS (lv_sub hl [0, 1, 2, 3] rfl)
def s_X5_cheap_44 (vweight : Nat → Int32) (vkind : Nat → Int32) (vhas : Nat → Int32) (p0 : Int32) (p1 : Int32) (x : Int32 × Int32 × Int32) : Option ((Int32 × Int32 × Int32) ⊕ (Int32 × Int32 × Int32)) := if 4095 < x.2.2 then (some (.inr (x.1, x.2.1, x.2.2))) else (ob (f_X5_isSentence vkind x.2.2 p1) (fun o11 => if o11 = 0 then (some (.inl (x.1, x.2.1, (x.2.2 + 1)))) else (chk p0 4 (ob (f_X5_costOf vweight (x.2.2 &&& ((vhas (p0).toNatClampNeg) ^^^ (-1)))) (fun o14 => if x.1 < 0 then (if x.2.2 = x.2.2 then (some (.inl (x.2.2, o14, (x.2.2 + 1)))) else (some (.inl (x.2.2, x.2.1, (x.2.2 + 1))))) else (if x.2.1 ≤ o14 then (if x.1 = x.2.2 then (some (.inl (x.1, o14, (x.2.2 + 1)))) else (some (.inl (x.1, x.2.1, (x.2.2 + 1))))) else (if x.2.2 = x.2.2 then (some (.inl (x.2.2, o14, (x.2.2 + 1)))) else (some (.inl (x.2.2, x.2.1, (x.2.2 + 1)))))))))))
def f_X5_cheap (vweight : Nat → Int32) (vkind : Nat → Int32) (vhas : Nat → Int32) (p0 : Int32) (p1 : Int32) (p2 : Int32) : Option (Int32) := bd (f_X5_isSpeaker p0) (fun o1 => if o1 = 0 then (some (-1)) else (bd (f_X5_in p1.toInt64 (1) (8)) (fun o3 => if o3 = 0 then (some (-2)) else (bd (f_X5_in p2.toInt64 (0) (1)) (fun o5 => if o5 = 0 then (some (-2)) else (ob (wh (s_X5_cheap_44 vweight vkind vhas p0 p1) 5000 ((-6), 0, 1)) (fun r7 => if r7.1 < 0 then (some r7.1) else (if p2 = 1 then (some r7.1) else (some r7.2.1)))))))))
theorem inX5_cheap_X5 : ∀ w ∈ wsX50, w ∈ wsX5_cheap := fun w h => List.mem_cons_of_mem _ (List.mem_append_right _ h)
theorem yd_X5_cheap : yX5_cheap.cls ≠ "java/lang/invoke/MethodHandle" ∧ yX5_cheap.cls ≠ "java/lang/invoke/VarHandle" ∧ (parseMethodDescriptor yX5_cheap.desc).map (fun d => d.parameters.length) = some 3 := by decide +kernel
abbrev rmX5_cheap : Room := { frames := 2, cells := 0, slots := 0, locals := 47 }
set_option maxHeartbeats 4000000 in
set_option maxRecDepth 100000 in
theorem k_X5_cheap (l : Launch) (D : va_G) (K : Nat → ClassId) (q : Nat → Nat) (vweight : Nat → Int32) (vkind : Nat → Int32) (vrhymes : Nat → Int32) (vpurse : Nat → Int32) (vhas : Nat → Int32) (vwishes : Nat → Int32) (vwishMany : Int32) (vsightLeft : Nat → Int32) (vsightRight : Nat → Int32) (vsightHow : Nat → Int32) (vsights : Int32) (vpad : Nat → Int32) (vpadMany : Int32) (vact : Nat → Int32) (vwho : Nat → Int32) (vwhich : Nat → Int32) (vwhom : Nat → Int32) (vacts : Int32) (vplace : Int32) (vopenMany : Int32) (vended : Int32) (vspoken : Int32) (vheaviest : Int32) (vheaviestWeight : Int32) (vhad : Nat → Int32) (vbadAct : Int32) (vbadWhy : Int32) (vbrings : Nat → Int64) (vbringsThen : Nat → Int64) (vkept : Nat → Int32) (visKept : Nat → Int32) (vkeptAt : Int32) (visWriting : Int32) (p0 : Int32) (p1 : Int32) (p2 : Int32) (out : Int32) (hf : f_X5_cheap vweight vkind vhas p0 p1 p2 = some out) : kI l D K .int yX5_cheap wsX5_cheap rmX5_cheap [.ref (q 0), .int p0, .int p1, .int p2] (mdW K q vweight vkind vrhymes vpurse vhas vwishes vwishMany vsightLeft vsightRight vsightHow vsights vpad vpadMany vact vwho vwhich vwhom vacts vplace vopenMany vended vspoken vheaviest vheaviestWeight vhad vbadAct vbadWhy vbrings vbringsThen vkept visKept vkeptAt visWriting) out (mdW K q vweight vkind vrhymes vpurse vhas vwishes vwishMany vsightLeft vsightRight vsightHow vsights vpad vpadMany vact vwho vwhich vwhom vacts vplace vopenMany vended vspoken vheaviest vheaviestWeight vhad vbadAct vbadWhy vbrings vbringsThen vkept visKept vkeptAt visWriting) := by
  refine kI.of (cc := cX5_cheap) (maxL := 8) (by decide) rfl (Nat.le_of_ble_eq_true rfl) ?_
  intro p e s m args below meth c A H0 Q ls hx hb hml hown hts hK hN hA hP hD hS hl hret
  have hown : s.vm.findClass RX5 = some m.cls := hown
  have hl : lv_has ls 8 [(0, .ref (q 0)), (1, .int p0), (2, .int p1), (3, .int p2)] := hl
  generalize hH : H0 = H at hP ⊢
  have hS : va_S A H0 H [] := by rw [← hH]; exact hS
  clear hH
  unfold f_X5_cheap at hf
  refine lv_iload_n hx hb dX5_cheap_0 rfl (lv_at hl 1 rfl) ?_
  obtain ⟨o1, ho1, hf⟩ := bd_el hf
  refine kc0_i (D := D) (va_runS (As := [.int p0]) (rest := []) ⟨hx, hb, hml, hown, hts⟩ ((k_X5_isSpeaker l D K p0 o1 ho1) H.size) (va_cwS 1 hts gX5_cheap_X5_isSpeaker rfl rfl rfl yd_X5_isSpeaker ⟨Nat.le_of_ble_eq_true rfl, Nat.le_of_ble_eq_true rfl⟩) (kPreS va_P_nil (va_D_nil (A := fun _ => True)) hK hN) rfl rfl hl.1 rfl (lv_room (Nat.le_of_ble_eq_true rfl)) dX5_cheap_1 ⟨Nat.le_of_ble_eq_true rfl, Nat.le_of_ble_eq_true rfl⟩) hP hS hA (fun hzo1 H locs hP hS => ?_)
  refine lv_if_ne (tgt := 9) hx hb dX5_cheap_4 (by decide) (fun c2 => ?_) (fun c2 => ?_)
  · rw [if_neg c2] at hf
    refine lv_iload_n hx hb dX5_cheap_9 rfl (lv_at hl 2 rfl) ?_
    refine lv_i2l (v := p1.toInt64) hx hb dX5_cheap_10 rfl ?_
    refine lv_lconst (v := 1) hx hb dX5_cheap_11 (by decide) ?_
    refine lv_ldc2 hx hb hown (hts (.constantLong RX5 198 (8)) (List.mem_of_getElem? (i := 1) rfl)) dX5_cheap_12 ?_
    obtain ⟨o3, ho3, hf⟩ := bd_el hf
    refine kc0_i (D := D) (va_runS (As := [.long p1.toInt64, .long 1, .long 8]) (rest := []) ⟨hx, hb, hml, hown, hts⟩ ((k_X5_in l D K p1.toInt64 (1) (8) o3 ho3) H.size) (va_cwS 3 hts gX5_cheap_X5_in rfl rfl rfl yd_X5_in ⟨Nat.le_of_ble_eq_true rfl, Nat.le_of_ble_eq_true rfl⟩) (kPreS va_P_nil (va_D_nil (A := fun _ => True)) hK hN) rfl rfl hl.1 rfl (lv_room (Nat.le_of_ble_eq_true rfl)) dX5_cheap_15 ⟨Nat.le_of_ble_eq_true rfl, Nat.le_of_ble_eq_true rfl⟩) hP hS hA (fun hzo3 H locs hP hS => ?_)
    refine lv_if_eq (tgt := 31) hx hb dX5_cheap_18 (by decide) (fun c4 => ?_) (fun c4 => ?_)
    · rw [if_pos c4] at hf
      refine lv_bipush (v := (-2)) hx hb dX5_cheap_31 (by decide) ?_
      obtain rfl := Option.some.inj hf
      exact hret rfl rfl rfl hP hD hS dX5_cheap_33
    · rw [if_neg c4] at hf
      refine lv_iload_n hx hb dX5_cheap_21 rfl (lv_at hl 3 rfl) ?_
      refine lv_i2l (v := p2.toInt64) hx hb dX5_cheap_22 rfl ?_
      refine lv_lconst (v := 0) hx hb dX5_cheap_23 (by decide) ?_
      refine lv_lconst (v := 1) hx hb dX5_cheap_24 (by decide) ?_
      obtain ⟨o5, ho5, hf⟩ := bd_el hf
      refine kc0_i (D := D) (va_runS (As := [.long p2.toInt64, .long 0, .long 1]) (rest := []) ⟨hx, hb, hml, hown, hts⟩ ((k_X5_in l D K p2.toInt64 (0) (1) o5 ho5) H.size) (va_cwS 3 hts gX5_cheap_X5_in rfl rfl rfl yd_X5_in ⟨Nat.le_of_ble_eq_true rfl, Nat.le_of_ble_eq_true rfl⟩) (kPreS va_P_nil (va_D_nil (A := fun _ => True)) hK hN) rfl rfl hl.1 rfl (lv_room (Nat.le_of_ble_eq_true rfl)) dX5_cheap_25 ⟨Nat.le_of_ble_eq_true rfl, Nat.le_of_ble_eq_true rfl⟩) hP hS hA (fun hzo5 H locs hP hS => ?_)
      refine lv_if_ne (tgt := 34) hx hb dX5_cheap_28 (by decide) (fun c6 => ?_) (fun c6 => ?_)
      · rw [if_neg c6] at hf
        refine lv_bipush (v := (-6)) hx hb dX5_cheap_34 (by decide) ?_
        refine lv_istore (lv' := [(4, .int (-6)), (0, .ref (q 0)), (1, .int p0), (2, .int p1), (3, .int p2)]) hx hb dX5_cheap_36 hl (by decide) rfl (fun ls hl => ?_)
        refine lv_iconst (v := 0) hx hb dX5_cheap_38 (by decide) ?_
        refine lv_istore (lv' := [(5, .int 0), (4, .int (-6)), (0, .ref (q 0)), (1, .int p0), (2, .int p1), (3, .int p2)]) hx hb dX5_cheap_39 hl (by decide) rfl (fun ls hl => ?_)
        refine lv_iconst (v := 1) hx hb dX5_cheap_41 (by decide) ?_
        refine lv_istore (lv' := [(6, .int 1), (5, .int 0), (4, .int (-6)), (0, .ref (q 0)), (1, .int p0), (2, .int p1), (3, .int p2)]) hx hb dX5_cheap_42 hl (by decide) rfl (fun ls hl => ?_)
        obtain ⟨r7, hr7, hf⟩ := ob_el hf
        have post44 : ∀ (e44_l4 : Int32) (e44_l5 : Int32) (e44_l6 : Int32) (H : Heap) (locs : List Loc) (ls : Array Slot), (if e44_l4 < 0 then (some e44_l4) else (if p2 = 1 then (some e44_l4) else (some e44_l5))) = some out → va_P D vwCl (mdW K q vweight vkind vrhymes vpurse vhas vwishes vwishMany vsightLeft vsightRight vsightHow vsights vpad vpadMany vact vwho vwhich vwhom vacts vplace vopenMany vended vspoken vheaviest vheaviestWeight vhad vbadAct vbadWhy vbrings vbringsThen vkept visKept vkeptAt visWriting) H → va_D A (mdW K q vweight vkind vrhymes vpurse vhas vwishes vwishMany vsightLeft vsightRight vsightHow vsights vpad vpadMany vact vwho vwhich vwhom vacts vplace vopenMany vended vspoken vheaviest vheaviestWeight vhad vbadAct vbadWhy vbrings vbringsThen vkept visKept vkeptAt visWriting) → va_S A H0 H locs → lv_has ls 8 [(6, .int e44_l6), (5, .int e44_l5), (4, .int e44_l4), (0, .ref (q 0)), (1, .int p0), (2, .int p1), (3, .int p2)] → W p l e rmX5_cheap s m args below meth c H locs 0 0 Q (F0 m 122 ls []) := by
          intro e44_l4 e44_l5 e44_l6 H locs ls hf hP hD hS hl
          refine lv_iload hx hb dX5_cheap_122 (lv_at hl 2 rfl) ?_
          refine lv_if_lt (tgt := 132) hx hb dX5_cheap_124 (by decide) (fun c8 => ?_) (fun c8 => ?_)
          · rw [if_pos c8] at hf
            refine lv_iload hx hb dX5_cheap_132 (lv_at hl 2 rfl) ?_
            refine lv_goto (tgt := 139) hx hb dX5_cheap_134 (by decide) ?_
            obtain rfl := Option.some.inj hf
            exact hret rfl rfl rfl hP hD hS dX5_cheap_139
          · rw [if_neg c8] at hf
            refine lv_iload_n hx hb dX5_cheap_127 rfl (lv_at hl 6 rfl) ?_
            refine lv_iconst (v := 1) hx hb dX5_cheap_128 (by decide) ?_
            refine lv_icmp_ne (tgt := 137) hx hb dX5_cheap_129 (by decide) (fun c9 => ?_) (fun c9 => ?_)
            · rw [if_neg c9] at hf
              refine lv_iload hx hb dX5_cheap_137 (lv_at hl 1 rfl) ?_
              obtain rfl := Option.some.inj hf
              exact hret rfl rfl rfl hP hD hS dX5_cheap_139
            · rw [if_pos c9] at hf
              refine lv_iload hx hb dX5_cheap_132 (lv_at hl 2 rfl) ?_
              refine lv_goto (tgt := 139) hx hb dX5_cheap_134 (by decide) ?_
              obtain rfl := Option.some.inj hf
              exact hret rfl rfl rfl hP hD hS dX5_cheap_139
        have lp44 : ∀ (fu : Nat) (x44_l4 : Int32) (x44_l5 : Int32) (x44_l6 : Int32) (H : Heap) (locs : List Loc) (ls : Array Slot), wh (s_X5_cheap_44 vweight vkind vhas p0 p1) fu (x44_l4, x44_l5, x44_l6) = some r7 → va_P D vwCl (mdW K q vweight vkind vrhymes vpurse vhas vwishes vwishMany vsightLeft vsightRight vsightHow vsights vpad vpadMany vact vwho vwhich vwhom vacts vplace vopenMany vended vspoken vheaviest vheaviestWeight vhad vbadAct vbadWhy vbrings vbringsThen vkept visKept vkeptAt visWriting) H → va_D A (mdW K q vweight vkind vrhymes vpurse vhas vwishes vwishMany vsightLeft vsightRight vsightHow vsights vpad vpadMany vact vwho vwhich vwhom vacts vplace vopenMany vended vspoken vheaviest vheaviestWeight vhad vbadAct vbadWhy vbrings vbringsThen vkept visKept vkeptAt visWriting) → va_S A H0 H locs → lv_has ls 8 [(6, .int x44_l6), (5, .int x44_l5), (4, .int x44_l4), (0, .ref (q 0)), (1, .int p0), (2, .int p1), (3, .int p2)] → W p l e rmX5_cheap s m args below meth c H locs 0 0 Q (F0 m 44 ls []) := by
          intro fu
          induction fu with
          | zero => intro x44_l4 x44_l5 x44_l6 H locs ls hw44; cases hw44
          | succ fu ih44 =>
            intro x44_l4 x44_l5 x44_l6 H locs ls hw44 hP hD hS hl
            obtain ⟨o44_, hs44, hw44⟩ := wh_el hw44
            unfold s_X5_cheap_44 at hs44
            dsimp only at hs44
            refine lv_iload hx hb dX5_cheap_44 (lv_at hl 0 rfl) ?_
            refine lv_sipush (v := 4095) hx hb dX5_cheap_46 (by decide) ?_
            refine lv_icmp_gt (tgt := 122) hx hb dX5_cheap_49 (by decide) (fun c10 => ?_) (fun c10 => ?_)
            · rw [if_pos c10] at hs44
              obtain rfl := Option.some.inj hs44
              have e9 := Option.some.inj hw44
              rw [← e9] at hf
              exact post44 _ _ _ _ _ _ hf hP hD hS (lv_sub hl [0, 1, 2, 3, 4, 5, 6] rfl)
            · rw [if_neg c10] at hs44
              refine lv_aload_n hx hb dX5_cheap_52 rfl (lv_at hl 3 rfl) ?_
              refine lv_iload hx hb dX5_cheap_53 (lv_at hl 0 rfl) ?_
              refine lv_iload_n hx hb dX5_cheap_55 rfl (lv_at hl 5 rfl) ?_
              obtain ⟨o11, ho11, hs44⟩ := ob_el hs44
              refine kcw_i (D := D) (va_runV (As := [.int x44_l6, .int p1]) (rest := []) ⟨hx, hb, hml, hown, hts⟩ ((k_X5_isSentence l D K q vweight vkind vrhymes vpurse vhas vwishes vwishMany vsightLeft vsightRight vsightHow vsights vpad vpadMany vact vwho vwhich vwhom vacts vplace vopenMany vended vspoken vheaviest vheaviestWeight vhad vbadAct vbadWhy vbrings vbringsThen vkept visKept vkeptAt visWriting x44_l6 p1 o11 ho11) H.size) (cwV 2 hts gX5_cheap_X5_isSentence rfl rfl rfl ⟨rfl, yd_X5_isSentence⟩ ⟨Nat.le_of_ble_eq_true rfl, Nat.le_of_ble_eq_true rfl⟩) (kPreV (ci := 5) (q0 := 0) hP rfl rfl hP hD hK hN) rfl rfl hl.1 rfl (lv_room (Nat.le_of_ble_eq_true rfl)) dX5_cheap_56 ⟨Nat.le_of_ble_eq_true rfl, Nat.le_of_ble_eq_true rfl⟩) hD hS hA (fun hzo11 H locs hP hD hS => ?_)
              have hP : va_P D vwCl (mdW K q vweight vkind vrhymes vpurse vhas vwishes vwishMany vsightLeft vsightRight vsightHow vsights vpad vpadMany vact vwho vwhich vwhom vacts vplace vopenMany vended vspoken vheaviest vheaviestWeight vhad vbadAct vbadWhy vbrings vbringsThen vkept visKept vkeptAt visWriting) H := hP
              have hD : va_D A (mdW K q vweight vkind vrhymes vpurse vhas vwishes vwishMany vsightLeft vsightRight vsightHow vsights vpad vpadMany vact vwho vwhich vwhom vacts vplace vopenMany vended vspoken vheaviest vheaviestWeight vhad vbadAct vbadWhy vbrings vbringsThen vkept visKept vkeptAt visWriting) := hD
              refine lv_if_eq (tgt := 116) hx hb dX5_cheap_59 (by decide) (fun c12 => ?_) (fun c12 => ?_)
              · rw [if_pos c12] at hs44
                refine lv_iinc (v := (x44_l6 + 1)) (lv' := [(6, .int (x44_l6 + 1)), (5, .int x44_l5), (4, .int x44_l4), (0, .ref (q 0)), (1, .int p0), (2, .int p1), (3, .int p2)]) hx hb dX5_cheap_116 hl (k := 0) rfl (by rfl) (by decide) rfl (fun ls hl => ?_)
                refine lv_goto (tgt := 44) hx hb dX5_cheap_119 (by decide) ?_
                obtain rfl := Option.some.inj hs44
                exact ih44 _ _ _ _ _ _ hw44 hP hD hS (lv_sub hl [0, 1, 2, 3, 4, 5, 6] rfl)
              · rw [if_neg c12] at hs44
                refine lv_aload_n hx hb dX5_cheap_62 rfl (lv_at hl 3 rfl) ?_
                refine lv_iload hx hb dX5_cheap_63 (lv_at hl 0 rfl) ?_
                refine lv_aload_n hx hb dX5_cheap_65 rfl (lv_at hl 3 rfl) ?_
                refine va_get (D := D) (ci := 5) (v := .ref (q 5)) (C := RX5) (T := TX5) (N := 33) hx hb hts inX5_cheap_X5 hown hK hP 0 rfl rfl 4 (by decide) (hts (.fieldLink RX5 22 "WordScalesModel" "has" "[I") (List.mem_of_getElem? (i := 2) rfl)) (fun _ h9 => h9) rfl dX5_cheap_66 ?_
                refine lv_iload_n hx hb dX5_cheap_69 rfl (lv_at hl 4 rfl) ?_
                obtain ⟨v13, hs44⟩ := chk_el hs44
                refine va_iald (D := D) (f := vhas) hx hb hK hP 5 0 rfl rfl v13 dX5_cheap_70 ?_
                refine lv_iconst (v := (-1)) hx hb dX5_cheap_71 (by decide) ?_
                refine lv_ixor hx hb dX5_cheap_72 ?_
                refine lv_iand hx hb dX5_cheap_73 ?_
                obtain ⟨o14, ho14, hs44⟩ := ob_el hs44
                refine kcw_i (D := D) (va_runV (As := [.int (x44_l6 &&& ((vhas (p0).toNatClampNeg) ^^^ (-1)))]) (rest := []) ⟨hx, hb, hml, hown, hts⟩ ((k_X5_costOf l D K q vweight vkind vrhymes vpurse vhas vwishes vwishMany vsightLeft vsightRight vsightHow vsights vpad vpadMany vact vwho vwhich vwhom vacts vplace vopenMany vended vspoken vheaviest vheaviestWeight vhad vbadAct vbadWhy vbrings vbringsThen vkept visKept vkeptAt visWriting (x44_l6 &&& ((vhas (p0).toNatClampNeg) ^^^ (-1))) o14 ho14) H.size) (cwV 1 hts gX5_cheap_X5_costOf rfl rfl rfl ⟨rfl, yd_X5_costOf⟩ ⟨Nat.le_of_ble_eq_true rfl, Nat.le_of_ble_eq_true rfl⟩) (kPreV (ci := 5) (q0 := 0) hP rfl rfl hP hD hK hN) rfl rfl hl.1 rfl (lv_room (Nat.le_of_ble_eq_true rfl)) dX5_cheap_74 ⟨Nat.le_of_ble_eq_true rfl, Nat.le_of_ble_eq_true rfl⟩) hD hS hA (fun hzo14 H locs hP hD hS => ?_)
                have hP : va_P D vwCl (mdW K q vweight vkind vrhymes vpurse vhas vwishes vwishMany vsightLeft vsightRight vsightHow vsights vpad vpadMany vact vwho vwhich vwhom vacts vplace vopenMany vended vspoken vheaviest vheaviestWeight vhad vbadAct vbadWhy vbrings vbringsThen vkept visKept vkeptAt visWriting) H := hP
                have hD : va_D A (mdW K q vweight vkind vrhymes vpurse vhas vwishes vwishMany vsightLeft vsightRight vsightHow vsights vpad vpadMany vact vwho vwhich vwhom vacts vplace vopenMany vended vspoken vheaviest vheaviestWeight vhad vbadAct vbadWhy vbrings vbringsThen vkept visKept vkeptAt visWriting) := hD
                refine lv_istore (lv' := [(7, .int o14), (6, .int x44_l6), (5, .int x44_l5), (4, .int x44_l4), (0, .ref (q 0)), (1, .int p0), (2, .int p1), (3, .int p2)]) hx hb dX5_cheap_77 hl (by decide) rfl (fun ls hl => ?_)
                refine lv_iload hx hb dX5_cheap_79 (lv_at hl 3 rfl) ?_
                refine lv_if_lt (tgt := 91) hx hb dX5_cheap_81 (by decide) (fun c15 => ?_) (fun c15 => ?_)
                · rw [if_pos c15] at hs44
                  refine lv_iload hx hb dX5_cheap_91 (lv_at hl 1 rfl) ?_
                  refine lv_goto (tgt := 98) hx hb dX5_cheap_93 (by decide) ?_
                  refine lv_istore (lv' := [(4, .int x44_l6), (7, .int o14), (6, .int x44_l6), (5, .int x44_l5), (0, .ref (q 0)), (1, .int p0), (2, .int p1), (3, .int p2)]) hx hb dX5_cheap_98 hl (by decide) rfl (fun ls hl => ?_)
                  refine lv_iload hx hb dX5_cheap_100 (lv_at hl 0 rfl) ?_
                  refine lv_iload hx hb dX5_cheap_102 (lv_at hl 2 rfl) ?_
                  refine lv_icmp_ne (tgt := 112) hx hb dX5_cheap_104 (by decide) (fun c16 => ?_) (fun c16 => ?_)
                  · rw [if_neg c16] at hs44
                    refine lv_iload hx hb dX5_cheap_112 (lv_at hl 3 rfl) ?_
                    refine lv_istore (lv' := [(5, .int x44_l5), (4, .int x44_l6), (7, .int o14), (6, .int x44_l6), (0, .ref (q 0)), (1, .int p0), (2, .int p1), (3, .int p2)]) hx hb dX5_cheap_114 hl (by decide) rfl (fun ls hl => ?_)
                    refine lv_iinc (v := (x44_l6 + 1)) (lv' := [(6, .int (x44_l6 + 1)), (5, .int x44_l5), (4, .int x44_l6), (7, .int o14), (0, .ref (q 0)), (1, .int p0), (2, .int p1), (3, .int p2)]) hx hb dX5_cheap_116 hl (k := 3) rfl (by rfl) (by decide) rfl (fun ls hl => ?_)
                    refine lv_goto (tgt := 44) hx hb dX5_cheap_119 (by decide) ?_
                    obtain rfl := Option.some.inj hs44
                    exact ih44 _ _ _ _ _ _ hw44 hP hD hS (lv_sub hl [0, 1, 2, 4, 5, 6, 7] rfl)
                  · rw [if_pos c16] at hs44
                    refine lv_iload hx hb dX5_cheap_107 (lv_at hl 1 rfl) ?_
                    refine lv_goto (tgt := 114) hx hb dX5_cheap_109 (by decide) ?_
                    refine lv_istore (lv' := [(5, .int o14), (4, .int x44_l6), (7, .int o14), (6, .int x44_l6), (0, .ref (q 0)), (1, .int p0), (2, .int p1), (3, .int p2)]) hx hb dX5_cheap_114 hl (by decide) rfl (fun ls hl => ?_)
                    refine lv_iinc (v := (x44_l6 + 1)) (lv' := [(6, .int (x44_l6 + 1)), (5, .int o14), (4, .int x44_l6), (7, .int o14), (0, .ref (q 0)), (1, .int p0), (2, .int p1), (3, .int p2)]) hx hb dX5_cheap_116 hl (k := 3) rfl (by rfl) (by decide) rfl (fun ls hl => ?_)
                    refine lv_goto (tgt := 44) hx hb dX5_cheap_119 (by decide) ?_
                    obtain rfl := Option.some.inj hs44
                    exact ih44 _ _ _ _ _ _ hw44 hP hD hS (lv_sub hl [0, 1, 2, 4, 5, 6, 7] rfl)
                · rw [if_neg c15] at hs44
                  refine lv_iload hx hb dX5_cheap_84 (lv_at hl 0 rfl) ?_
                  refine lv_iload hx hb dX5_cheap_86 (lv_at hl 2 rfl) ?_
                  refine lv_icmp_ge (tgt := 96) hx hb dX5_cheap_88 (by decide) (fun c17 => ?_) (fun c17 => ?_)
                  · rw [if_pos c17] at hs44
                    refine lv_iload hx hb dX5_cheap_96 (lv_at hl 3 rfl) ?_
                    refine lv_istore (lv' := [(4, .int x44_l4), (7, .int o14), (6, .int x44_l6), (5, .int x44_l5), (0, .ref (q 0)), (1, .int p0), (2, .int p1), (3, .int p2)]) hx hb dX5_cheap_98 hl (by decide) rfl (fun ls hl => ?_)
                    refine lv_iload hx hb dX5_cheap_100 (lv_at hl 0 rfl) ?_
                    refine lv_iload hx hb dX5_cheap_102 (lv_at hl 2 rfl) ?_
                    refine lv_icmp_ne (tgt := 112) hx hb dX5_cheap_104 (by decide) (fun c18 => ?_) (fun c18 => ?_)
                    · rw [if_neg c18] at hs44
                      refine lv_iload hx hb dX5_cheap_112 (lv_at hl 3 rfl) ?_
                      refine lv_istore (lv' := [(5, .int x44_l5), (4, .int x44_l4), (7, .int o14), (6, .int x44_l6), (0, .ref (q 0)), (1, .int p0), (2, .int p1), (3, .int p2)]) hx hb dX5_cheap_114 hl (by decide) rfl (fun ls hl => ?_)
                      refine lv_iinc (v := (x44_l6 + 1)) (lv' := [(6, .int (x44_l6 + 1)), (5, .int x44_l5), (4, .int x44_l4), (7, .int o14), (0, .ref (q 0)), (1, .int p0), (2, .int p1), (3, .int p2)]) hx hb dX5_cheap_116 hl (k := 3) rfl (by rfl) (by decide) rfl (fun ls hl => ?_)
                      refine lv_goto (tgt := 44) hx hb dX5_cheap_119 (by decide) ?_
                      obtain rfl := Option.some.inj hs44
                      exact ih44 _ _ _ _ _ _ hw44 hP hD hS (lv_sub hl [0, 1, 2, 4, 5, 6, 7] rfl)
                    · rw [if_pos c18] at hs44
                      refine lv_iload hx hb dX5_cheap_107 (lv_at hl 1 rfl) ?_
                      refine lv_goto (tgt := 114) hx hb dX5_cheap_109 (by decide) ?_
                      refine lv_istore (lv' := [(5, .int o14), (4, .int x44_l4), (7, .int o14), (6, .int x44_l6), (0, .ref (q 0)), (1, .int p0), (2, .int p1), (3, .int p2)]) hx hb dX5_cheap_114 hl (by decide) rfl (fun ls hl => ?_)
                      refine lv_iinc (v := (x44_l6 + 1)) (lv' := [(6, .int (x44_l6 + 1)), (5, .int o14), (4, .int x44_l4), (7, .int o14), (0, .ref (q 0)), (1, .int p0), (2, .int p1), (3, .int p2)]) hx hb dX5_cheap_116 hl (k := 3) rfl (by rfl) (by decide) rfl (fun ls hl => ?_)
                      refine lv_goto (tgt := 44) hx hb dX5_cheap_119 (by decide) ?_
                      obtain rfl := Option.some.inj hs44
                      exact ih44 _ _ _ _ _ _ hw44 hP hD hS (lv_sub hl [0, 1, 2, 4, 5, 6, 7] rfl)
                  · rw [if_neg c17] at hs44
                    refine lv_iload hx hb dX5_cheap_91 (lv_at hl 1 rfl) ?_
                    refine lv_goto (tgt := 98) hx hb dX5_cheap_93 (by decide) ?_
                    refine lv_istore (lv' := [(4, .int x44_l6), (7, .int o14), (6, .int x44_l6), (5, .int x44_l5), (0, .ref (q 0)), (1, .int p0), (2, .int p1), (3, .int p2)]) hx hb dX5_cheap_98 hl (by decide) rfl (fun ls hl => ?_)
                    refine lv_iload hx hb dX5_cheap_100 (lv_at hl 0 rfl) ?_
                    refine lv_iload hx hb dX5_cheap_102 (lv_at hl 2 rfl) ?_
                    refine lv_icmp_ne (tgt := 112) hx hb dX5_cheap_104 (by decide) (fun c19 => ?_) (fun c19 => ?_)
                    · rw [if_neg c19] at hs44
                      refine lv_iload hx hb dX5_cheap_112 (lv_at hl 3 rfl) ?_
                      refine lv_istore (lv' := [(5, .int x44_l5), (4, .int x44_l6), (7, .int o14), (6, .int x44_l6), (0, .ref (q 0)), (1, .int p0), (2, .int p1), (3, .int p2)]) hx hb dX5_cheap_114 hl (by decide) rfl (fun ls hl => ?_)
                      refine lv_iinc (v := (x44_l6 + 1)) (lv' := [(6, .int (x44_l6 + 1)), (5, .int x44_l5), (4, .int x44_l6), (7, .int o14), (0, .ref (q 0)), (1, .int p0), (2, .int p1), (3, .int p2)]) hx hb dX5_cheap_116 hl (k := 3) rfl (by rfl) (by decide) rfl (fun ls hl => ?_)
                      refine lv_goto (tgt := 44) hx hb dX5_cheap_119 (by decide) ?_
                      obtain rfl := Option.some.inj hs44
                      exact ih44 _ _ _ _ _ _ hw44 hP hD hS (lv_sub hl [0, 1, 2, 4, 5, 6, 7] rfl)
                    · rw [if_pos c19] at hs44
                      refine lv_iload hx hb dX5_cheap_107 (lv_at hl 1 rfl) ?_
                      refine lv_goto (tgt := 114) hx hb dX5_cheap_109 (by decide) ?_
                      refine lv_istore (lv' := [(5, .int o14), (4, .int x44_l6), (7, .int o14), (6, .int x44_l6), (0, .ref (q 0)), (1, .int p0), (2, .int p1), (3, .int p2)]) hx hb dX5_cheap_114 hl (by decide) rfl (fun ls hl => ?_)
                      refine lv_iinc (v := (x44_l6 + 1)) (lv' := [(6, .int (x44_l6 + 1)), (5, .int o14), (4, .int x44_l6), (7, .int o14), (0, .ref (q 0)), (1, .int p0), (2, .int p1), (3, .int p2)]) hx hb dX5_cheap_116 hl (k := 3) rfl (by rfl) (by decide) rfl (fun ls hl => ?_)
                      refine lv_goto (tgt := 44) hx hb dX5_cheap_119 (by decide) ?_
                      obtain rfl := Option.some.inj hs44
                      exact ih44 _ _ _ _ _ _ hw44 hP hD hS (lv_sub hl [0, 1, 2, 4, 5, 6, 7] rfl)
        exact lp44 5000 _ _ _ _ _ _ hr7 hP hD hS (lv_sub hl [0, 1, 2, 3, 4, 5, 6] rfl)
      · rw [if_pos c6] at hf
        refine lv_bipush (v := (-2)) hx hb dX5_cheap_31 (by decide) ?_
        obtain rfl := Option.some.inj hf
        exact hret rfl rfl rfl hP hD hS dX5_cheap_33
  · rw [if_pos c2] at hf
    refine lv_iconst (v := (-1)) hx hb dX5_cheap_7 (by decide) ?_
    obtain rfl := Option.some.inj hf
    exact hret rfl rfl rfl hP hD hS dX5_cheap_8
def f_X5_canSay (vkind : Nat → Int32) (p0 : Int32) (p1 : Int32) : Option (Int32) := ob (f_X5_manyOf vkind p0 (0)) (fun o1 => ob (f_X5_manyOf vkind p0 (2)) (fun o2 => if p1 < 2 then (if p1 < 3 then (ob (f_X5_manyOf vkind p0 (1)) (fun o5 => if o5 < 1 then (some 0) else (some 0))) else (if o1 < 2 then (ob (f_X5_manyOf vkind p0 (1)) (fun o10 => if o10 < 1 then (some 0) else (some 0))) else (if o2 < (p1 - 3) then (ob (f_X5_manyOf vkind p0 (1)) (fun o15 => if o15 < 1 then (some 0) else (some 0))) else (ob (f_X5_manyOf vkind p0 (1)) (fun o19 => if o19 < 1 then (some 0) else (some 1)))))) else (if o1 < 1 then (if p1 < 3 then (ob (f_X5_manyOf vkind p0 (1)) (fun o25 => if o25 < 1 then (some 0) else (some 0))) else (if o1 < 2 then (ob (f_X5_manyOf vkind p0 (1)) (fun o30 => if o30 < 1 then (some 0) else (some 0))) else (if o2 < (p1 - 3) then (ob (f_X5_manyOf vkind p0 (1)) (fun o35 => if o35 < 1 then (some 0) else (some 0))) else (ob (f_X5_manyOf vkind p0 (1)) (fun o39 => if o39 < 1 then (some 0) else (some 1)))))) else (if o2 < (p1 - 2) then (if p1 < 3 then (ob (f_X5_manyOf vkind p0 (1)) (fun o45 => if o45 < 1 then (some 0) else (some 0))) else (if o1 < 2 then (ob (f_X5_manyOf vkind p0 (1)) (fun o50 => if o50 < 1 then (some 0) else (some 0))) else (if o2 < (p1 - 3) then (ob (f_X5_manyOf vkind p0 (1)) (fun o55 => if o55 < 1 then (some 0) else (some 0))) else (ob (f_X5_manyOf vkind p0 (1)) (fun o59 => if o59 < 1 then (some 0) else (some 1)))))) else (if p1 < 3 then (ob (f_X5_manyOf vkind p0 (1)) (fun o64 => if o64 < 1 then (some 0) else (some 1))) else (if o1 < 2 then (ob (f_X5_manyOf vkind p0 (1)) (fun o68 => if o68 < 1 then (some 0) else (some 1))) else (if o2 < (p1 - 3) then (ob (f_X5_manyOf vkind p0 (1)) (fun o72 => if o72 < 1 then (some 0) else (some 1))) else (ob (f_X5_manyOf vkind p0 (1)) (fun o75 => if o75 < 1 then (some 0) else (some 1))))))))))
theorem yd_X5_canSay : yX5_canSay.cls ≠ "java/lang/invoke/MethodHandle" ∧ yX5_canSay.cls ≠ "java/lang/invoke/VarHandle" ∧ (parseMethodDescriptor yX5_canSay.desc).map (fun d => d.parameters.length) = some 2 := by decide +kernel
abbrev rmX5_canSay : Room := { frames := 1, cells := 0, slots := 0, locals := 24 }
set_option maxHeartbeats 4000000 in
set_option maxRecDepth 100000 in
theorem k_X5_canSay (l : Launch) (D : va_G) (K : Nat → ClassId) (q : Nat → Nat) (vweight : Nat → Int32) (vkind : Nat → Int32) (vrhymes : Nat → Int32) (vpurse : Nat → Int32) (vhas : Nat → Int32) (vwishes : Nat → Int32) (vwishMany : Int32) (vsightLeft : Nat → Int32) (vsightRight : Nat → Int32) (vsightHow : Nat → Int32) (vsights : Int32) (vpad : Nat → Int32) (vpadMany : Int32) (vact : Nat → Int32) (vwho : Nat → Int32) (vwhich : Nat → Int32) (vwhom : Nat → Int32) (vacts : Int32) (vplace : Int32) (vopenMany : Int32) (vended : Int32) (vspoken : Int32) (vheaviest : Int32) (vheaviestWeight : Int32) (vhad : Nat → Int32) (vbadAct : Int32) (vbadWhy : Int32) (vbrings : Nat → Int64) (vbringsThen : Nat → Int64) (vkept : Nat → Int32) (visKept : Nat → Int32) (vkeptAt : Int32) (visWriting : Int32) (p0 : Int32) (p1 : Int32) (out : Int32) (hf : f_X5_canSay vkind p0 p1 = some out) : kI l D K .boolean yX5_canSay wsX5_canSay rmX5_canSay [.ref (q 0), .int p0, .int p1] (mdW K q vweight vkind vrhymes vpurse vhas vwishes vwishMany vsightLeft vsightRight vsightHow vsights vpad vpadMany vact vwho vwhich vwhom vacts vplace vopenMany vended vspoken vheaviest vheaviestWeight vhad vbadAct vbadWhy vbrings vbringsThen vkept visKept vkeptAt visWriting) out (mdW K q vweight vkind vrhymes vpurse vhas vwishes vwishMany vsightLeft vsightRight vsightHow vsights vpad vpadMany vact vwho vwhich vwhom vacts vplace vopenMany vended vspoken vheaviest vheaviestWeight vhad vbadAct vbadWhy vbrings vbringsThen vkept visKept vkeptAt visWriting) := by
  refine kI.of (cc := cX5_canSay) (maxL := 7) (by decide) rfl (Nat.le_of_ble_eq_true rfl) ?_
  intro p e s m args below meth c A H0 Q ls hx hb hml hown hts hK hN hA hP hD hS hl hret
  have hown : s.vm.findClass RX5 = some m.cls := hown
  have hl : lv_has ls 7 [(0, .ref (q 0)), (1, .int p0), (2, .int p1)] := hl
  generalize hH : H0 = H at hP ⊢
  have hS : va_S A H0 H [] := by rw [← hH]; exact hS
  clear hH
  unfold f_X5_canSay at hf
  refine lv_aload_n hx hb dX5_canSay_0 rfl (lv_at hl 0 rfl) ?_
  refine lv_iload_n hx hb dX5_canSay_1 rfl (lv_at hl 1 rfl) ?_
  refine lv_iconst (v := 0) hx hb dX5_canSay_2 (by decide) ?_
  obtain ⟨o1, ho1, hf⟩ := ob_el hf
  refine kcw_i (D := D) (va_runV (As := [.int p0, .int 0]) (rest := []) ⟨hx, hb, hml, hown, hts⟩ ((k_X5_manyOf l D K q vweight vkind vrhymes vpurse vhas vwishes vwishMany vsightLeft vsightRight vsightHow vsights vpad vpadMany vact vwho vwhich vwhom vacts vplace vopenMany vended vspoken vheaviest vheaviestWeight vhad vbadAct vbadWhy vbrings vbringsThen vkept visKept vkeptAt visWriting p0 (0) o1 ho1) H.size) (cwV 2 hts gX5_canSay_X5_manyOf rfl rfl rfl ⟨rfl, yd_X5_manyOf⟩ ⟨Nat.le_of_ble_eq_true rfl, Nat.le_of_ble_eq_true rfl⟩) (kPreV (ci := 5) (q0 := 0) hP rfl rfl hP hD hK hN) rfl rfl hl.1 rfl (lv_room (Nat.le_of_ble_eq_true rfl)) dX5_canSay_3 ⟨Nat.le_of_ble_eq_true rfl, Nat.le_of_ble_eq_true rfl⟩) hD hS hA (fun hzo1 H locs hP hD hS => ?_)
  have hP : va_P D vwCl (mdW K q vweight vkind vrhymes vpurse vhas vwishes vwishMany vsightLeft vsightRight vsightHow vsights vpad vpadMany vact vwho vwhich vwhom vacts vplace vopenMany vended vspoken vheaviest vheaviestWeight vhad vbadAct vbadWhy vbrings vbringsThen vkept visKept vkeptAt visWriting) H := hP
  have hD : va_D A (mdW K q vweight vkind vrhymes vpurse vhas vwishes vwishMany vsightLeft vsightRight vsightHow vsights vpad vpadMany vact vwho vwhich vwhom vacts vplace vopenMany vended vspoken vheaviest vheaviestWeight vhad vbadAct vbadWhy vbrings vbringsThen vkept visKept vkeptAt visWriting) := hD
  refine lv_istore_n (lv' := [(3, .int o1), (0, .ref (q 0)), (1, .int p0), (2, .int p1)]) hx hb dX5_canSay_6 rfl hl (by decide) rfl (fun ls hl => ?_)
  refine lv_aload_n hx hb dX5_canSay_7 rfl (lv_at hl 1 rfl) ?_
  refine lv_iload_n hx hb dX5_canSay_8 rfl (lv_at hl 2 rfl) ?_
  refine lv_iconst (v := 2) hx hb dX5_canSay_9 (by decide) ?_
  obtain ⟨o2, ho2, hf⟩ := ob_el hf
  refine kcw_i (D := D) (va_runV (As := [.int p0, .int 2]) (rest := []) ⟨hx, hb, hml, hown, hts⟩ ((k_X5_manyOf l D K q vweight vkind vrhymes vpurse vhas vwishes vwishMany vsightLeft vsightRight vsightHow vsights vpad vpadMany vact vwho vwhich vwhom vacts vplace vopenMany vended vspoken vheaviest vheaviestWeight vhad vbadAct vbadWhy vbrings vbringsThen vkept visKept vkeptAt visWriting p0 (2) o2 ho2) H.size) (cwV 2 hts gX5_canSay_X5_manyOf rfl rfl rfl ⟨rfl, yd_X5_manyOf⟩ ⟨Nat.le_of_ble_eq_true rfl, Nat.le_of_ble_eq_true rfl⟩) (kPreV (ci := 5) (q0 := 0) hP rfl rfl hP hD hK hN) rfl rfl hl.1 rfl (lv_room (Nat.le_of_ble_eq_true rfl)) dX5_canSay_10 ⟨Nat.le_of_ble_eq_true rfl, Nat.le_of_ble_eq_true rfl⟩) hD hS hA (fun hzo2 H locs hP hD hS => ?_)
  have hP : va_P D vwCl (mdW K q vweight vkind vrhymes vpurse vhas vwishes vwishMany vsightLeft vsightRight vsightHow vsights vpad vpadMany vact vwho vwhich vwhom vacts vplace vopenMany vended vspoken vheaviest vheaviestWeight vhad vbadAct vbadWhy vbrings vbringsThen vkept visKept vkeptAt visWriting) H := hP
  have hD : va_D A (mdW K q vweight vkind vrhymes vpurse vhas vwishes vwishMany vsightLeft vsightRight vsightHow vsights vpad vpadMany vact vwho vwhich vwhom vacts vplace vopenMany vended vspoken vheaviest vheaviestWeight vhad vbadAct vbadWhy vbrings vbringsThen vkept visKept vkeptAt visWriting) := hD
  refine lv_istore (lv' := [(4, .int o2), (3, .int o1), (0, .ref (q 0)), (1, .int p0), (2, .int p1)]) hx hb dX5_canSay_13 hl (by decide) rfl (fun ls hl => ?_)
  refine lv_iload_n hx hb dX5_canSay_15 rfl (lv_at hl 4 rfl) ?_
  refine lv_iconst (v := 2) hx hb dX5_canSay_16 (by decide) ?_
  refine lv_icmp_lt (tgt := 37) hx hb dX5_canSay_17 (by decide) (fun c3 => ?_) (fun c3 => ?_)
  · rw [if_pos c3] at hf
    refine lv_iconst (v := 0) hx hb dX5_canSay_37 (by decide) ?_
    refine lv_istore (lv' := [(5, .int 0), (4, .int o2), (3, .int o1), (0, .ref (q 0)), (1, .int p0), (2, .int p1)]) hx hb dX5_canSay_38 hl (by decide) rfl (fun ls hl => ?_)
    refine lv_iload_n hx hb dX5_canSay_40 rfl (lv_at hl 5 rfl) ?_
    refine lv_iconst (v := 3) hx hb dX5_canSay_41 (by decide) ?_
    refine lv_icmp_lt (tgt := 62) hx hb dX5_canSay_42 (by decide) (fun c4 => ?_) (fun c4 => ?_)
    · rw [if_pos c4] at hf
      refine lv_iconst (v := 0) hx hb dX5_canSay_62 (by decide) ?_
      refine lv_istore (lv' := [(6, .int 0), (5, .int 0), (4, .int o2), (3, .int o1), (0, .ref (q 0)), (1, .int p0), (2, .int p1)]) hx hb dX5_canSay_63 hl (by decide) rfl (fun ls hl => ?_)
      refine lv_aload_n hx hb dX5_canSay_65 rfl (lv_at hl 4 rfl) ?_
      refine lv_iload_n hx hb dX5_canSay_66 rfl (lv_at hl 5 rfl) ?_
      refine lv_iconst (v := 1) hx hb dX5_canSay_67 (by decide) ?_
      obtain ⟨o5, ho5, hf⟩ := ob_el hf
      refine kcw_i (D := D) (va_runV (As := [.int p0, .int 1]) (rest := []) ⟨hx, hb, hml, hown, hts⟩ ((k_X5_manyOf l D K q vweight vkind vrhymes vpurse vhas vwishes vwishMany vsightLeft vsightRight vsightHow vsights vpad vpadMany vact vwho vwhich vwhom vacts vplace vopenMany vended vspoken vheaviest vheaviestWeight vhad vbadAct vbadWhy vbrings vbringsThen vkept visKept vkeptAt visWriting p0 (1) o5 ho5) H.size) (cwV 2 hts gX5_canSay_X5_manyOf rfl rfl rfl ⟨rfl, yd_X5_manyOf⟩ ⟨Nat.le_of_ble_eq_true rfl, Nat.le_of_ble_eq_true rfl⟩) (kPreV (ci := 5) (q0 := 0) hP rfl rfl hP hD hK hN) rfl rfl hl.1 rfl (lv_room (Nat.le_of_ble_eq_true rfl)) dX5_canSay_68 ⟨Nat.le_of_ble_eq_true rfl, Nat.le_of_ble_eq_true rfl⟩) hD hS hA (fun hzo5 H locs hP hD hS => ?_)
      have hP : va_P D vwCl (mdW K q vweight vkind vrhymes vpurse vhas vwishes vwishMany vsightLeft vsightRight vsightHow vsights vpad vpadMany vact vwho vwhich vwhom vacts vplace vopenMany vended vspoken vheaviest vheaviestWeight vhad vbadAct vbadWhy vbrings vbringsThen vkept visKept vkeptAt visWriting) H := hP
      have hD : va_D A (mdW K q vweight vkind vrhymes vpurse vhas vwishes vwishMany vsightLeft vsightRight vsightHow vsights vpad vpadMany vact vwho vwhich vwhom vacts vplace vopenMany vended vspoken vheaviest vheaviestWeight vhad vbadAct vbadWhy vbrings vbringsThen vkept visKept vkeptAt visWriting) := hD
      refine lv_iconst (v := 1) hx hb dX5_canSay_71 (by decide) ?_
      refine lv_icmp_lt (tgt := 89) hx hb dX5_canSay_72 (by decide) (fun c6 => ?_) (fun c6 => ?_)
      · rw [if_pos c6] at hf
        refine lv_iconst (v := 0) hx hb dX5_canSay_89 (by decide) ?_
        obtain rfl := Option.some.inj hf
        exact hret rfl rfl rfl hP hD hS dX5_canSay_90
      · rw [if_neg c6] at hf
        refine lv_iload hx hb dX5_canSay_75 (lv_at hl 1 rfl) ?_
        refine lv_if_ne (tgt := 85) hx hb dX5_canSay_77 (by decide) (fun c7 => ?_) (fun c7 => ?_)
        · exact absurd (by decide : (0 : Int32) = 0) c7
        · skip
          refine lv_iload hx hb dX5_canSay_80 (lv_at hl 0 rfl) ?_
          refine lv_if_eq (tgt := 89) hx hb dX5_canSay_82 (by decide) (fun c8 => ?_) (fun c8 => ?_)
          · skip
            refine lv_iconst (v := 0) hx hb dX5_canSay_89 (by decide) ?_
            obtain rfl := Option.some.inj hf
            exact hret rfl rfl rfl hP hD hS dX5_canSay_90
          · exact absurd (by decide : (0 : Int32) = 0) c8
    · rw [if_neg c4] at hf
      refine lv_iload_n hx hb dX5_canSay_45 rfl (lv_at hl 2 rfl) ?_
      refine lv_iconst (v := 2) hx hb dX5_canSay_46 (by decide) ?_
      refine lv_icmp_lt (tgt := 62) hx hb dX5_canSay_47 (by decide) (fun c9 => ?_) (fun c9 => ?_)
      · rw [if_pos c9] at hf
        refine lv_iconst (v := 0) hx hb dX5_canSay_62 (by decide) ?_
        refine lv_istore (lv' := [(6, .int 0), (5, .int 0), (4, .int o2), (3, .int o1), (0, .ref (q 0)), (1, .int p0), (2, .int p1)]) hx hb dX5_canSay_63 hl (by decide) rfl (fun ls hl => ?_)
        refine lv_aload_n hx hb dX5_canSay_65 rfl (lv_at hl 4 rfl) ?_
        refine lv_iload_n hx hb dX5_canSay_66 rfl (lv_at hl 5 rfl) ?_
        refine lv_iconst (v := 1) hx hb dX5_canSay_67 (by decide) ?_
        obtain ⟨o10, ho10, hf⟩ := ob_el hf
        refine kcw_i (D := D) (va_runV (As := [.int p0, .int 1]) (rest := []) ⟨hx, hb, hml, hown, hts⟩ ((k_X5_manyOf l D K q vweight vkind vrhymes vpurse vhas vwishes vwishMany vsightLeft vsightRight vsightHow vsights vpad vpadMany vact vwho vwhich vwhom vacts vplace vopenMany vended vspoken vheaviest vheaviestWeight vhad vbadAct vbadWhy vbrings vbringsThen vkept visKept vkeptAt visWriting p0 (1) o10 ho10) H.size) (cwV 2 hts gX5_canSay_X5_manyOf rfl rfl rfl ⟨rfl, yd_X5_manyOf⟩ ⟨Nat.le_of_ble_eq_true rfl, Nat.le_of_ble_eq_true rfl⟩) (kPreV (ci := 5) (q0 := 0) hP rfl rfl hP hD hK hN) rfl rfl hl.1 rfl (lv_room (Nat.le_of_ble_eq_true rfl)) dX5_canSay_68 ⟨Nat.le_of_ble_eq_true rfl, Nat.le_of_ble_eq_true rfl⟩) hD hS hA (fun hzo10 H locs hP hD hS => ?_)
        have hP : va_P D vwCl (mdW K q vweight vkind vrhymes vpurse vhas vwishes vwishMany vsightLeft vsightRight vsightHow vsights vpad vpadMany vact vwho vwhich vwhom vacts vplace vopenMany vended vspoken vheaviest vheaviestWeight vhad vbadAct vbadWhy vbrings vbringsThen vkept visKept vkeptAt visWriting) H := hP
        have hD : va_D A (mdW K q vweight vkind vrhymes vpurse vhas vwishes vwishMany vsightLeft vsightRight vsightHow vsights vpad vpadMany vact vwho vwhich vwhom vacts vplace vopenMany vended vspoken vheaviest vheaviestWeight vhad vbadAct vbadWhy vbrings vbringsThen vkept visKept vkeptAt visWriting) := hD
        refine lv_iconst (v := 1) hx hb dX5_canSay_71 (by decide) ?_
        refine lv_icmp_lt (tgt := 89) hx hb dX5_canSay_72 (by decide) (fun c11 => ?_) (fun c11 => ?_)
        · rw [if_pos c11] at hf
          refine lv_iconst (v := 0) hx hb dX5_canSay_89 (by decide) ?_
          obtain rfl := Option.some.inj hf
          exact hret rfl rfl rfl hP hD hS dX5_canSay_90
        · rw [if_neg c11] at hf
          refine lv_iload hx hb dX5_canSay_75 (lv_at hl 1 rfl) ?_
          refine lv_if_ne (tgt := 85) hx hb dX5_canSay_77 (by decide) (fun c12 => ?_) (fun c12 => ?_)
          · exact absurd (by decide : (0 : Int32) = 0) c12
          · skip
            refine lv_iload hx hb dX5_canSay_80 (lv_at hl 0 rfl) ?_
            refine lv_if_eq (tgt := 89) hx hb dX5_canSay_82 (by decide) (fun c13 => ?_) (fun c13 => ?_)
            · skip
              refine lv_iconst (v := 0) hx hb dX5_canSay_89 (by decide) ?_
              obtain rfl := Option.some.inj hf
              exact hret rfl rfl rfl hP hD hS dX5_canSay_90
            · exact absurd (by decide : (0 : Int32) = 0) c13
      · rw [if_neg c9] at hf
        refine lv_iload hx hb dX5_canSay_50 (lv_at hl 1 rfl) ?_
        refine lv_iload_n hx hb dX5_canSay_52 rfl (lv_at hl 5 rfl) ?_
        refine lv_iconst (v := 3) hx hb dX5_canSay_53 (by decide) ?_
        refine lv_isub hx hb dX5_canSay_54 ?_
        refine lv_icmp_lt (tgt := 62) hx hb dX5_canSay_55 (by decide) (fun c14 => ?_) (fun c14 => ?_)
        · rw [if_pos c14] at hf
          refine lv_iconst (v := 0) hx hb dX5_canSay_62 (by decide) ?_
          refine lv_istore (lv' := [(6, .int 0), (5, .int 0), (4, .int o2), (3, .int o1), (0, .ref (q 0)), (1, .int p0), (2, .int p1)]) hx hb dX5_canSay_63 hl (by decide) rfl (fun ls hl => ?_)
          refine lv_aload_n hx hb dX5_canSay_65 rfl (lv_at hl 4 rfl) ?_
          refine lv_iload_n hx hb dX5_canSay_66 rfl (lv_at hl 5 rfl) ?_
          refine lv_iconst (v := 1) hx hb dX5_canSay_67 (by decide) ?_
          obtain ⟨o15, ho15, hf⟩ := ob_el hf
          refine kcw_i (D := D) (va_runV (As := [.int p0, .int 1]) (rest := []) ⟨hx, hb, hml, hown, hts⟩ ((k_X5_manyOf l D K q vweight vkind vrhymes vpurse vhas vwishes vwishMany vsightLeft vsightRight vsightHow vsights vpad vpadMany vact vwho vwhich vwhom vacts vplace vopenMany vended vspoken vheaviest vheaviestWeight vhad vbadAct vbadWhy vbrings vbringsThen vkept visKept vkeptAt visWriting p0 (1) o15 ho15) H.size) (cwV 2 hts gX5_canSay_X5_manyOf rfl rfl rfl ⟨rfl, yd_X5_manyOf⟩ ⟨Nat.le_of_ble_eq_true rfl, Nat.le_of_ble_eq_true rfl⟩) (kPreV (ci := 5) (q0 := 0) hP rfl rfl hP hD hK hN) rfl rfl hl.1 rfl (lv_room (Nat.le_of_ble_eq_true rfl)) dX5_canSay_68 ⟨Nat.le_of_ble_eq_true rfl, Nat.le_of_ble_eq_true rfl⟩) hD hS hA (fun hzo15 H locs hP hD hS => ?_)
          have hP : va_P D vwCl (mdW K q vweight vkind vrhymes vpurse vhas vwishes vwishMany vsightLeft vsightRight vsightHow vsights vpad vpadMany vact vwho vwhich vwhom vacts vplace vopenMany vended vspoken vheaviest vheaviestWeight vhad vbadAct vbadWhy vbrings vbringsThen vkept visKept vkeptAt visWriting) H := hP
          have hD : va_D A (mdW K q vweight vkind vrhymes vpurse vhas vwishes vwishMany vsightLeft vsightRight vsightHow vsights vpad vpadMany vact vwho vwhich vwhom vacts vplace vopenMany vended vspoken vheaviest vheaviestWeight vhad vbadAct vbadWhy vbrings vbringsThen vkept visKept vkeptAt visWriting) := hD
          refine lv_iconst (v := 1) hx hb dX5_canSay_71 (by decide) ?_
          refine lv_icmp_lt (tgt := 89) hx hb dX5_canSay_72 (by decide) (fun c16 => ?_) (fun c16 => ?_)
          · rw [if_pos c16] at hf
            refine lv_iconst (v := 0) hx hb dX5_canSay_89 (by decide) ?_
            obtain rfl := Option.some.inj hf
            exact hret rfl rfl rfl hP hD hS dX5_canSay_90
          · rw [if_neg c16] at hf
            refine lv_iload hx hb dX5_canSay_75 (lv_at hl 1 rfl) ?_
            refine lv_if_ne (tgt := 85) hx hb dX5_canSay_77 (by decide) (fun c17 => ?_) (fun c17 => ?_)
            · exact absurd (by decide : (0 : Int32) = 0) c17
            · skip
              refine lv_iload hx hb dX5_canSay_80 (lv_at hl 0 rfl) ?_
              refine lv_if_eq (tgt := 89) hx hb dX5_canSay_82 (by decide) (fun c18 => ?_) (fun c18 => ?_)
              · skip
                refine lv_iconst (v := 0) hx hb dX5_canSay_89 (by decide) ?_
                obtain rfl := Option.some.inj hf
                exact hret rfl rfl rfl hP hD hS dX5_canSay_90
              · exact absurd (by decide : (0 : Int32) = 0) c18
        · rw [if_neg c14] at hf
          refine lv_iconst (v := 1) hx hb dX5_canSay_58 (by decide) ?_
          refine lv_goto (tgt := 63) hx hb dX5_canSay_59 (by decide) ?_
          refine lv_istore (lv' := [(6, .int 1), (5, .int 0), (4, .int o2), (3, .int o1), (0, .ref (q 0)), (1, .int p0), (2, .int p1)]) hx hb dX5_canSay_63 hl (by decide) rfl (fun ls hl => ?_)
          refine lv_aload_n hx hb dX5_canSay_65 rfl (lv_at hl 4 rfl) ?_
          refine lv_iload_n hx hb dX5_canSay_66 rfl (lv_at hl 5 rfl) ?_
          refine lv_iconst (v := 1) hx hb dX5_canSay_67 (by decide) ?_
          obtain ⟨o19, ho19, hf⟩ := ob_el hf
          refine kcw_i (D := D) (va_runV (As := [.int p0, .int 1]) (rest := []) ⟨hx, hb, hml, hown, hts⟩ ((k_X5_manyOf l D K q vweight vkind vrhymes vpurse vhas vwishes vwishMany vsightLeft vsightRight vsightHow vsights vpad vpadMany vact vwho vwhich vwhom vacts vplace vopenMany vended vspoken vheaviest vheaviestWeight vhad vbadAct vbadWhy vbrings vbringsThen vkept visKept vkeptAt visWriting p0 (1) o19 ho19) H.size) (cwV 2 hts gX5_canSay_X5_manyOf rfl rfl rfl ⟨rfl, yd_X5_manyOf⟩ ⟨Nat.le_of_ble_eq_true rfl, Nat.le_of_ble_eq_true rfl⟩) (kPreV (ci := 5) (q0 := 0) hP rfl rfl hP hD hK hN) rfl rfl hl.1 rfl (lv_room (Nat.le_of_ble_eq_true rfl)) dX5_canSay_68 ⟨Nat.le_of_ble_eq_true rfl, Nat.le_of_ble_eq_true rfl⟩) hD hS hA (fun hzo19 H locs hP hD hS => ?_)
          have hP : va_P D vwCl (mdW K q vweight vkind vrhymes vpurse vhas vwishes vwishMany vsightLeft vsightRight vsightHow vsights vpad vpadMany vact vwho vwhich vwhom vacts vplace vopenMany vended vspoken vheaviest vheaviestWeight vhad vbadAct vbadWhy vbrings vbringsThen vkept visKept vkeptAt visWriting) H := hP
          have hD : va_D A (mdW K q vweight vkind vrhymes vpurse vhas vwishes vwishMany vsightLeft vsightRight vsightHow vsights vpad vpadMany vact vwho vwhich vwhom vacts vplace vopenMany vended vspoken vheaviest vheaviestWeight vhad vbadAct vbadWhy vbrings vbringsThen vkept visKept vkeptAt visWriting) := hD
          refine lv_iconst (v := 1) hx hb dX5_canSay_71 (by decide) ?_
          refine lv_icmp_lt (tgt := 89) hx hb dX5_canSay_72 (by decide) (fun c20 => ?_) (fun c20 => ?_)
          · rw [if_pos c20] at hf
            refine lv_iconst (v := 0) hx hb dX5_canSay_89 (by decide) ?_
            obtain rfl := Option.some.inj hf
            exact hret rfl rfl rfl hP hD hS dX5_canSay_90
          · rw [if_neg c20] at hf
            refine lv_iload hx hb dX5_canSay_75 (lv_at hl 1 rfl) ?_
            refine lv_if_ne (tgt := 85) hx hb dX5_canSay_77 (by decide) (fun c21 => ?_) (fun c21 => ?_)
            · exact absurd (by decide : (0 : Int32) = 0) c21
            · skip
              refine lv_iload hx hb dX5_canSay_80 (lv_at hl 0 rfl) ?_
              refine lv_if_eq (tgt := 89) hx hb dX5_canSay_82 (by decide) (fun c22 => ?_) (fun c22 => ?_)
              · exact absurd c22 (by decide : ¬ (1 : Int32) = 0)
              · skip
                refine lv_iconst (v := 1) hx hb dX5_canSay_85 (by decide) ?_
                refine lv_goto (tgt := 90) hx hb dX5_canSay_86 (by decide) ?_
                obtain rfl := Option.some.inj hf
                exact hret rfl rfl rfl hP hD hS dX5_canSay_90
  · rw [if_neg c3] at hf
    refine lv_iload_n hx hb dX5_canSay_20 rfl (lv_at hl 1 rfl) ?_
    refine lv_iconst (v := 1) hx hb dX5_canSay_21 (by decide) ?_
    refine lv_icmp_lt (tgt := 37) hx hb dX5_canSay_22 (by decide) (fun c23 => ?_) (fun c23 => ?_)
    · rw [if_pos c23] at hf
      refine lv_iconst (v := 0) hx hb dX5_canSay_37 (by decide) ?_
      refine lv_istore (lv' := [(5, .int 0), (4, .int o2), (3, .int o1), (0, .ref (q 0)), (1, .int p0), (2, .int p1)]) hx hb dX5_canSay_38 hl (by decide) rfl (fun ls hl => ?_)
      refine lv_iload_n hx hb dX5_canSay_40 rfl (lv_at hl 5 rfl) ?_
      refine lv_iconst (v := 3) hx hb dX5_canSay_41 (by decide) ?_
      refine lv_icmp_lt (tgt := 62) hx hb dX5_canSay_42 (by decide) (fun c24 => ?_) (fun c24 => ?_)
      · rw [if_pos c24] at hf
        refine lv_iconst (v := 0) hx hb dX5_canSay_62 (by decide) ?_
        refine lv_istore (lv' := [(6, .int 0), (5, .int 0), (4, .int o2), (3, .int o1), (0, .ref (q 0)), (1, .int p0), (2, .int p1)]) hx hb dX5_canSay_63 hl (by decide) rfl (fun ls hl => ?_)
        refine lv_aload_n hx hb dX5_canSay_65 rfl (lv_at hl 4 rfl) ?_
        refine lv_iload_n hx hb dX5_canSay_66 rfl (lv_at hl 5 rfl) ?_
        refine lv_iconst (v := 1) hx hb dX5_canSay_67 (by decide) ?_
        obtain ⟨o25, ho25, hf⟩ := ob_el hf
        refine kcw_i (D := D) (va_runV (As := [.int p0, .int 1]) (rest := []) ⟨hx, hb, hml, hown, hts⟩ ((k_X5_manyOf l D K q vweight vkind vrhymes vpurse vhas vwishes vwishMany vsightLeft vsightRight vsightHow vsights vpad vpadMany vact vwho vwhich vwhom vacts vplace vopenMany vended vspoken vheaviest vheaviestWeight vhad vbadAct vbadWhy vbrings vbringsThen vkept visKept vkeptAt visWriting p0 (1) o25 ho25) H.size) (cwV 2 hts gX5_canSay_X5_manyOf rfl rfl rfl ⟨rfl, yd_X5_manyOf⟩ ⟨Nat.le_of_ble_eq_true rfl, Nat.le_of_ble_eq_true rfl⟩) (kPreV (ci := 5) (q0 := 0) hP rfl rfl hP hD hK hN) rfl rfl hl.1 rfl (lv_room (Nat.le_of_ble_eq_true rfl)) dX5_canSay_68 ⟨Nat.le_of_ble_eq_true rfl, Nat.le_of_ble_eq_true rfl⟩) hD hS hA (fun hzo25 H locs hP hD hS => ?_)
        have hP : va_P D vwCl (mdW K q vweight vkind vrhymes vpurse vhas vwishes vwishMany vsightLeft vsightRight vsightHow vsights vpad vpadMany vact vwho vwhich vwhom vacts vplace vopenMany vended vspoken vheaviest vheaviestWeight vhad vbadAct vbadWhy vbrings vbringsThen vkept visKept vkeptAt visWriting) H := hP
        have hD : va_D A (mdW K q vweight vkind vrhymes vpurse vhas vwishes vwishMany vsightLeft vsightRight vsightHow vsights vpad vpadMany vact vwho vwhich vwhom vacts vplace vopenMany vended vspoken vheaviest vheaviestWeight vhad vbadAct vbadWhy vbrings vbringsThen vkept visKept vkeptAt visWriting) := hD
        refine lv_iconst (v := 1) hx hb dX5_canSay_71 (by decide) ?_
        refine lv_icmp_lt (tgt := 89) hx hb dX5_canSay_72 (by decide) (fun c26 => ?_) (fun c26 => ?_)
        · rw [if_pos c26] at hf
          refine lv_iconst (v := 0) hx hb dX5_canSay_89 (by decide) ?_
          obtain rfl := Option.some.inj hf
          exact hret rfl rfl rfl hP hD hS dX5_canSay_90
        · rw [if_neg c26] at hf
          refine lv_iload hx hb dX5_canSay_75 (lv_at hl 1 rfl) ?_
          refine lv_if_ne (tgt := 85) hx hb dX5_canSay_77 (by decide) (fun c27 => ?_) (fun c27 => ?_)
          · exact absurd (by decide : (0 : Int32) = 0) c27
          · skip
            refine lv_iload hx hb dX5_canSay_80 (lv_at hl 0 rfl) ?_
            refine lv_if_eq (tgt := 89) hx hb dX5_canSay_82 (by decide) (fun c28 => ?_) (fun c28 => ?_)
            · skip
              refine lv_iconst (v := 0) hx hb dX5_canSay_89 (by decide) ?_
              obtain rfl := Option.some.inj hf
              exact hret rfl rfl rfl hP hD hS dX5_canSay_90
            · exact absurd (by decide : (0 : Int32) = 0) c28
      · rw [if_neg c24] at hf
        refine lv_iload_n hx hb dX5_canSay_45 rfl (lv_at hl 2 rfl) ?_
        refine lv_iconst (v := 2) hx hb dX5_canSay_46 (by decide) ?_
        refine lv_icmp_lt (tgt := 62) hx hb dX5_canSay_47 (by decide) (fun c29 => ?_) (fun c29 => ?_)
        · rw [if_pos c29] at hf
          refine lv_iconst (v := 0) hx hb dX5_canSay_62 (by decide) ?_
          refine lv_istore (lv' := [(6, .int 0), (5, .int 0), (4, .int o2), (3, .int o1), (0, .ref (q 0)), (1, .int p0), (2, .int p1)]) hx hb dX5_canSay_63 hl (by decide) rfl (fun ls hl => ?_)
          refine lv_aload_n hx hb dX5_canSay_65 rfl (lv_at hl 4 rfl) ?_
          refine lv_iload_n hx hb dX5_canSay_66 rfl (lv_at hl 5 rfl) ?_
          refine lv_iconst (v := 1) hx hb dX5_canSay_67 (by decide) ?_
          obtain ⟨o30, ho30, hf⟩ := ob_el hf
          refine kcw_i (D := D) (va_runV (As := [.int p0, .int 1]) (rest := []) ⟨hx, hb, hml, hown, hts⟩ ((k_X5_manyOf l D K q vweight vkind vrhymes vpurse vhas vwishes vwishMany vsightLeft vsightRight vsightHow vsights vpad vpadMany vact vwho vwhich vwhom vacts vplace vopenMany vended vspoken vheaviest vheaviestWeight vhad vbadAct vbadWhy vbrings vbringsThen vkept visKept vkeptAt visWriting p0 (1) o30 ho30) H.size) (cwV 2 hts gX5_canSay_X5_manyOf rfl rfl rfl ⟨rfl, yd_X5_manyOf⟩ ⟨Nat.le_of_ble_eq_true rfl, Nat.le_of_ble_eq_true rfl⟩) (kPreV (ci := 5) (q0 := 0) hP rfl rfl hP hD hK hN) rfl rfl hl.1 rfl (lv_room (Nat.le_of_ble_eq_true rfl)) dX5_canSay_68 ⟨Nat.le_of_ble_eq_true rfl, Nat.le_of_ble_eq_true rfl⟩) hD hS hA (fun hzo30 H locs hP hD hS => ?_)
          have hP : va_P D vwCl (mdW K q vweight vkind vrhymes vpurse vhas vwishes vwishMany vsightLeft vsightRight vsightHow vsights vpad vpadMany vact vwho vwhich vwhom vacts vplace vopenMany vended vspoken vheaviest vheaviestWeight vhad vbadAct vbadWhy vbrings vbringsThen vkept visKept vkeptAt visWriting) H := hP
          have hD : va_D A (mdW K q vweight vkind vrhymes vpurse vhas vwishes vwishMany vsightLeft vsightRight vsightHow vsights vpad vpadMany vact vwho vwhich vwhom vacts vplace vopenMany vended vspoken vheaviest vheaviestWeight vhad vbadAct vbadWhy vbrings vbringsThen vkept visKept vkeptAt visWriting) := hD
          refine lv_iconst (v := 1) hx hb dX5_canSay_71 (by decide) ?_
          refine lv_icmp_lt (tgt := 89) hx hb dX5_canSay_72 (by decide) (fun c31 => ?_) (fun c31 => ?_)
          · rw [if_pos c31] at hf
            refine lv_iconst (v := 0) hx hb dX5_canSay_89 (by decide) ?_
            obtain rfl := Option.some.inj hf
            exact hret rfl rfl rfl hP hD hS dX5_canSay_90
          · rw [if_neg c31] at hf
            refine lv_iload hx hb dX5_canSay_75 (lv_at hl 1 rfl) ?_
            refine lv_if_ne (tgt := 85) hx hb dX5_canSay_77 (by decide) (fun c32 => ?_) (fun c32 => ?_)
            · exact absurd (by decide : (0 : Int32) = 0) c32
            · skip
              refine lv_iload hx hb dX5_canSay_80 (lv_at hl 0 rfl) ?_
              refine lv_if_eq (tgt := 89) hx hb dX5_canSay_82 (by decide) (fun c33 => ?_) (fun c33 => ?_)
              · skip
                refine lv_iconst (v := 0) hx hb dX5_canSay_89 (by decide) ?_
                obtain rfl := Option.some.inj hf
                exact hret rfl rfl rfl hP hD hS dX5_canSay_90
              · exact absurd (by decide : (0 : Int32) = 0) c33
        · rw [if_neg c29] at hf
          refine lv_iload hx hb dX5_canSay_50 (lv_at hl 1 rfl) ?_
          refine lv_iload_n hx hb dX5_canSay_52 rfl (lv_at hl 5 rfl) ?_
          refine lv_iconst (v := 3) hx hb dX5_canSay_53 (by decide) ?_
          refine lv_isub hx hb dX5_canSay_54 ?_
          refine lv_icmp_lt (tgt := 62) hx hb dX5_canSay_55 (by decide) (fun c34 => ?_) (fun c34 => ?_)
          · rw [if_pos c34] at hf
            refine lv_iconst (v := 0) hx hb dX5_canSay_62 (by decide) ?_
            refine lv_istore (lv' := [(6, .int 0), (5, .int 0), (4, .int o2), (3, .int o1), (0, .ref (q 0)), (1, .int p0), (2, .int p1)]) hx hb dX5_canSay_63 hl (by decide) rfl (fun ls hl => ?_)
            refine lv_aload_n hx hb dX5_canSay_65 rfl (lv_at hl 4 rfl) ?_
            refine lv_iload_n hx hb dX5_canSay_66 rfl (lv_at hl 5 rfl) ?_
            refine lv_iconst (v := 1) hx hb dX5_canSay_67 (by decide) ?_
            obtain ⟨o35, ho35, hf⟩ := ob_el hf
            refine kcw_i (D := D) (va_runV (As := [.int p0, .int 1]) (rest := []) ⟨hx, hb, hml, hown, hts⟩ ((k_X5_manyOf l D K q vweight vkind vrhymes vpurse vhas vwishes vwishMany vsightLeft vsightRight vsightHow vsights vpad vpadMany vact vwho vwhich vwhom vacts vplace vopenMany vended vspoken vheaviest vheaviestWeight vhad vbadAct vbadWhy vbrings vbringsThen vkept visKept vkeptAt visWriting p0 (1) o35 ho35) H.size) (cwV 2 hts gX5_canSay_X5_manyOf rfl rfl rfl ⟨rfl, yd_X5_manyOf⟩ ⟨Nat.le_of_ble_eq_true rfl, Nat.le_of_ble_eq_true rfl⟩) (kPreV (ci := 5) (q0 := 0) hP rfl rfl hP hD hK hN) rfl rfl hl.1 rfl (lv_room (Nat.le_of_ble_eq_true rfl)) dX5_canSay_68 ⟨Nat.le_of_ble_eq_true rfl, Nat.le_of_ble_eq_true rfl⟩) hD hS hA (fun hzo35 H locs hP hD hS => ?_)
            have hP : va_P D vwCl (mdW K q vweight vkind vrhymes vpurse vhas vwishes vwishMany vsightLeft vsightRight vsightHow vsights vpad vpadMany vact vwho vwhich vwhom vacts vplace vopenMany vended vspoken vheaviest vheaviestWeight vhad vbadAct vbadWhy vbrings vbringsThen vkept visKept vkeptAt visWriting) H := hP
            have hD : va_D A (mdW K q vweight vkind vrhymes vpurse vhas vwishes vwishMany vsightLeft vsightRight vsightHow vsights vpad vpadMany vact vwho vwhich vwhom vacts vplace vopenMany vended vspoken vheaviest vheaviestWeight vhad vbadAct vbadWhy vbrings vbringsThen vkept visKept vkeptAt visWriting) := hD
            refine lv_iconst (v := 1) hx hb dX5_canSay_71 (by decide) ?_
            refine lv_icmp_lt (tgt := 89) hx hb dX5_canSay_72 (by decide) (fun c36 => ?_) (fun c36 => ?_)
            · rw [if_pos c36] at hf
              refine lv_iconst (v := 0) hx hb dX5_canSay_89 (by decide) ?_
              obtain rfl := Option.some.inj hf
              exact hret rfl rfl rfl hP hD hS dX5_canSay_90
            · rw [if_neg c36] at hf
              refine lv_iload hx hb dX5_canSay_75 (lv_at hl 1 rfl) ?_
              refine lv_if_ne (tgt := 85) hx hb dX5_canSay_77 (by decide) (fun c37 => ?_) (fun c37 => ?_)
              · exact absurd (by decide : (0 : Int32) = 0) c37
              · skip
                refine lv_iload hx hb dX5_canSay_80 (lv_at hl 0 rfl) ?_
                refine lv_if_eq (tgt := 89) hx hb dX5_canSay_82 (by decide) (fun c38 => ?_) (fun c38 => ?_)
                · skip
                  refine lv_iconst (v := 0) hx hb dX5_canSay_89 (by decide) ?_
                  obtain rfl := Option.some.inj hf
                  exact hret rfl rfl rfl hP hD hS dX5_canSay_90
                · exact absurd (by decide : (0 : Int32) = 0) c38
          · rw [if_neg c34] at hf
            refine lv_iconst (v := 1) hx hb dX5_canSay_58 (by decide) ?_
            refine lv_goto (tgt := 63) hx hb dX5_canSay_59 (by decide) ?_
            refine lv_istore (lv' := [(6, .int 1), (5, .int 0), (4, .int o2), (3, .int o1), (0, .ref (q 0)), (1, .int p0), (2, .int p1)]) hx hb dX5_canSay_63 hl (by decide) rfl (fun ls hl => ?_)
            refine lv_aload_n hx hb dX5_canSay_65 rfl (lv_at hl 4 rfl) ?_
            refine lv_iload_n hx hb dX5_canSay_66 rfl (lv_at hl 5 rfl) ?_
            refine lv_iconst (v := 1) hx hb dX5_canSay_67 (by decide) ?_
            obtain ⟨o39, ho39, hf⟩ := ob_el hf
            refine kcw_i (D := D) (va_runV (As := [.int p0, .int 1]) (rest := []) ⟨hx, hb, hml, hown, hts⟩ ((k_X5_manyOf l D K q vweight vkind vrhymes vpurse vhas vwishes vwishMany vsightLeft vsightRight vsightHow vsights vpad vpadMany vact vwho vwhich vwhom vacts vplace vopenMany vended vspoken vheaviest vheaviestWeight vhad vbadAct vbadWhy vbrings vbringsThen vkept visKept vkeptAt visWriting p0 (1) o39 ho39) H.size) (cwV 2 hts gX5_canSay_X5_manyOf rfl rfl rfl ⟨rfl, yd_X5_manyOf⟩ ⟨Nat.le_of_ble_eq_true rfl, Nat.le_of_ble_eq_true rfl⟩) (kPreV (ci := 5) (q0 := 0) hP rfl rfl hP hD hK hN) rfl rfl hl.1 rfl (lv_room (Nat.le_of_ble_eq_true rfl)) dX5_canSay_68 ⟨Nat.le_of_ble_eq_true rfl, Nat.le_of_ble_eq_true rfl⟩) hD hS hA (fun hzo39 H locs hP hD hS => ?_)
            have hP : va_P D vwCl (mdW K q vweight vkind vrhymes vpurse vhas vwishes vwishMany vsightLeft vsightRight vsightHow vsights vpad vpadMany vact vwho vwhich vwhom vacts vplace vopenMany vended vspoken vheaviest vheaviestWeight vhad vbadAct vbadWhy vbrings vbringsThen vkept visKept vkeptAt visWriting) H := hP
            have hD : va_D A (mdW K q vweight vkind vrhymes vpurse vhas vwishes vwishMany vsightLeft vsightRight vsightHow vsights vpad vpadMany vact vwho vwhich vwhom vacts vplace vopenMany vended vspoken vheaviest vheaviestWeight vhad vbadAct vbadWhy vbrings vbringsThen vkept visKept vkeptAt visWriting) := hD
            refine lv_iconst (v := 1) hx hb dX5_canSay_71 (by decide) ?_
            refine lv_icmp_lt (tgt := 89) hx hb dX5_canSay_72 (by decide) (fun c40 => ?_) (fun c40 => ?_)
            · rw [if_pos c40] at hf
              refine lv_iconst (v := 0) hx hb dX5_canSay_89 (by decide) ?_
              obtain rfl := Option.some.inj hf
              exact hret rfl rfl rfl hP hD hS dX5_canSay_90
            · rw [if_neg c40] at hf
              refine lv_iload hx hb dX5_canSay_75 (lv_at hl 1 rfl) ?_
              refine lv_if_ne (tgt := 85) hx hb dX5_canSay_77 (by decide) (fun c41 => ?_) (fun c41 => ?_)
              · exact absurd (by decide : (0 : Int32) = 0) c41
              · skip
                refine lv_iload hx hb dX5_canSay_80 (lv_at hl 0 rfl) ?_
                refine lv_if_eq (tgt := 89) hx hb dX5_canSay_82 (by decide) (fun c42 => ?_) (fun c42 => ?_)
                · exact absurd c42 (by decide : ¬ (1 : Int32) = 0)
                · skip
                  refine lv_iconst (v := 1) hx hb dX5_canSay_85 (by decide) ?_
                  refine lv_goto (tgt := 90) hx hb dX5_canSay_86 (by decide) ?_
                  obtain rfl := Option.some.inj hf
                  exact hret rfl rfl rfl hP hD hS dX5_canSay_90
    · rw [if_neg c23] at hf
      refine lv_iload hx hb dX5_canSay_25 (lv_at hl 0 rfl) ?_
      refine lv_iload_n hx hb dX5_canSay_27 rfl (lv_at hl 4 rfl) ?_
      refine lv_iconst (v := 2) hx hb dX5_canSay_28 (by decide) ?_
      refine lv_isub hx hb dX5_canSay_29 ?_
      refine lv_icmp_lt (tgt := 37) hx hb dX5_canSay_30 (by decide) (fun c43 => ?_) (fun c43 => ?_)
      · rw [if_pos c43] at hf
        refine lv_iconst (v := 0) hx hb dX5_canSay_37 (by decide) ?_
        refine lv_istore (lv' := [(5, .int 0), (4, .int o2), (3, .int o1), (0, .ref (q 0)), (1, .int p0), (2, .int p1)]) hx hb dX5_canSay_38 hl (by decide) rfl (fun ls hl => ?_)
        refine lv_iload_n hx hb dX5_canSay_40 rfl (lv_at hl 5 rfl) ?_
        refine lv_iconst (v := 3) hx hb dX5_canSay_41 (by decide) ?_
        refine lv_icmp_lt (tgt := 62) hx hb dX5_canSay_42 (by decide) (fun c44 => ?_) (fun c44 => ?_)
        · rw [if_pos c44] at hf
          refine lv_iconst (v := 0) hx hb dX5_canSay_62 (by decide) ?_
          refine lv_istore (lv' := [(6, .int 0), (5, .int 0), (4, .int o2), (3, .int o1), (0, .ref (q 0)), (1, .int p0), (2, .int p1)]) hx hb dX5_canSay_63 hl (by decide) rfl (fun ls hl => ?_)
          refine lv_aload_n hx hb dX5_canSay_65 rfl (lv_at hl 4 rfl) ?_
          refine lv_iload_n hx hb dX5_canSay_66 rfl (lv_at hl 5 rfl) ?_
          refine lv_iconst (v := 1) hx hb dX5_canSay_67 (by decide) ?_
          obtain ⟨o45, ho45, hf⟩ := ob_el hf
          refine kcw_i (D := D) (va_runV (As := [.int p0, .int 1]) (rest := []) ⟨hx, hb, hml, hown, hts⟩ ((k_X5_manyOf l D K q vweight vkind vrhymes vpurse vhas vwishes vwishMany vsightLeft vsightRight vsightHow vsights vpad vpadMany vact vwho vwhich vwhom vacts vplace vopenMany vended vspoken vheaviest vheaviestWeight vhad vbadAct vbadWhy vbrings vbringsThen vkept visKept vkeptAt visWriting p0 (1) o45 ho45) H.size) (cwV 2 hts gX5_canSay_X5_manyOf rfl rfl rfl ⟨rfl, yd_X5_manyOf⟩ ⟨Nat.le_of_ble_eq_true rfl, Nat.le_of_ble_eq_true rfl⟩) (kPreV (ci := 5) (q0 := 0) hP rfl rfl hP hD hK hN) rfl rfl hl.1 rfl (lv_room (Nat.le_of_ble_eq_true rfl)) dX5_canSay_68 ⟨Nat.le_of_ble_eq_true rfl, Nat.le_of_ble_eq_true rfl⟩) hD hS hA (fun hzo45 H locs hP hD hS => ?_)
          have hP : va_P D vwCl (mdW K q vweight vkind vrhymes vpurse vhas vwishes vwishMany vsightLeft vsightRight vsightHow vsights vpad vpadMany vact vwho vwhich vwhom vacts vplace vopenMany vended vspoken vheaviest vheaviestWeight vhad vbadAct vbadWhy vbrings vbringsThen vkept visKept vkeptAt visWriting) H := hP
          have hD : va_D A (mdW K q vweight vkind vrhymes vpurse vhas vwishes vwishMany vsightLeft vsightRight vsightHow vsights vpad vpadMany vact vwho vwhich vwhom vacts vplace vopenMany vended vspoken vheaviest vheaviestWeight vhad vbadAct vbadWhy vbrings vbringsThen vkept visKept vkeptAt visWriting) := hD
          refine lv_iconst (v := 1) hx hb dX5_canSay_71 (by decide) ?_
          refine lv_icmp_lt (tgt := 89) hx hb dX5_canSay_72 (by decide) (fun c46 => ?_) (fun c46 => ?_)
          · rw [if_pos c46] at hf
            refine lv_iconst (v := 0) hx hb dX5_canSay_89 (by decide) ?_
            obtain rfl := Option.some.inj hf
            exact hret rfl rfl rfl hP hD hS dX5_canSay_90
          · rw [if_neg c46] at hf
            refine lv_iload hx hb dX5_canSay_75 (lv_at hl 1 rfl) ?_
            refine lv_if_ne (tgt := 85) hx hb dX5_canSay_77 (by decide) (fun c47 => ?_) (fun c47 => ?_)
            · exact absurd (by decide : (0 : Int32) = 0) c47
            · skip
              refine lv_iload hx hb dX5_canSay_80 (lv_at hl 0 rfl) ?_
              refine lv_if_eq (tgt := 89) hx hb dX5_canSay_82 (by decide) (fun c48 => ?_) (fun c48 => ?_)
              · skip
                refine lv_iconst (v := 0) hx hb dX5_canSay_89 (by decide) ?_
                obtain rfl := Option.some.inj hf
                exact hret rfl rfl rfl hP hD hS dX5_canSay_90
              · exact absurd (by decide : (0 : Int32) = 0) c48
        · rw [if_neg c44] at hf
          refine lv_iload_n hx hb dX5_canSay_45 rfl (lv_at hl 2 rfl) ?_
          refine lv_iconst (v := 2) hx hb dX5_canSay_46 (by decide) ?_
          refine lv_icmp_lt (tgt := 62) hx hb dX5_canSay_47 (by decide) (fun c49 => ?_) (fun c49 => ?_)
          · rw [if_pos c49] at hf
            refine lv_iconst (v := 0) hx hb dX5_canSay_62 (by decide) ?_
            refine lv_istore (lv' := [(6, .int 0), (5, .int 0), (4, .int o2), (3, .int o1), (0, .ref (q 0)), (1, .int p0), (2, .int p1)]) hx hb dX5_canSay_63 hl (by decide) rfl (fun ls hl => ?_)
            refine lv_aload_n hx hb dX5_canSay_65 rfl (lv_at hl 4 rfl) ?_
            refine lv_iload_n hx hb dX5_canSay_66 rfl (lv_at hl 5 rfl) ?_
            refine lv_iconst (v := 1) hx hb dX5_canSay_67 (by decide) ?_
            obtain ⟨o50, ho50, hf⟩ := ob_el hf
            refine kcw_i (D := D) (va_runV (As := [.int p0, .int 1]) (rest := []) ⟨hx, hb, hml, hown, hts⟩ ((k_X5_manyOf l D K q vweight vkind vrhymes vpurse vhas vwishes vwishMany vsightLeft vsightRight vsightHow vsights vpad vpadMany vact vwho vwhich vwhom vacts vplace vopenMany vended vspoken vheaviest vheaviestWeight vhad vbadAct vbadWhy vbrings vbringsThen vkept visKept vkeptAt visWriting p0 (1) o50 ho50) H.size) (cwV 2 hts gX5_canSay_X5_manyOf rfl rfl rfl ⟨rfl, yd_X5_manyOf⟩ ⟨Nat.le_of_ble_eq_true rfl, Nat.le_of_ble_eq_true rfl⟩) (kPreV (ci := 5) (q0 := 0) hP rfl rfl hP hD hK hN) rfl rfl hl.1 rfl (lv_room (Nat.le_of_ble_eq_true rfl)) dX5_canSay_68 ⟨Nat.le_of_ble_eq_true rfl, Nat.le_of_ble_eq_true rfl⟩) hD hS hA (fun hzo50 H locs hP hD hS => ?_)
            have hP : va_P D vwCl (mdW K q vweight vkind vrhymes vpurse vhas vwishes vwishMany vsightLeft vsightRight vsightHow vsights vpad vpadMany vact vwho vwhich vwhom vacts vplace vopenMany vended vspoken vheaviest vheaviestWeight vhad vbadAct vbadWhy vbrings vbringsThen vkept visKept vkeptAt visWriting) H := hP
            have hD : va_D A (mdW K q vweight vkind vrhymes vpurse vhas vwishes vwishMany vsightLeft vsightRight vsightHow vsights vpad vpadMany vact vwho vwhich vwhom vacts vplace vopenMany vended vspoken vheaviest vheaviestWeight vhad vbadAct vbadWhy vbrings vbringsThen vkept visKept vkeptAt visWriting) := hD
            refine lv_iconst (v := 1) hx hb dX5_canSay_71 (by decide) ?_
            refine lv_icmp_lt (tgt := 89) hx hb dX5_canSay_72 (by decide) (fun c51 => ?_) (fun c51 => ?_)
            · rw [if_pos c51] at hf
              refine lv_iconst (v := 0) hx hb dX5_canSay_89 (by decide) ?_
              obtain rfl := Option.some.inj hf
              exact hret rfl rfl rfl hP hD hS dX5_canSay_90
            · rw [if_neg c51] at hf
              refine lv_iload hx hb dX5_canSay_75 (lv_at hl 1 rfl) ?_
              refine lv_if_ne (tgt := 85) hx hb dX5_canSay_77 (by decide) (fun c52 => ?_) (fun c52 => ?_)
              · exact absurd (by decide : (0 : Int32) = 0) c52
              · skip
                refine lv_iload hx hb dX5_canSay_80 (lv_at hl 0 rfl) ?_
                refine lv_if_eq (tgt := 89) hx hb dX5_canSay_82 (by decide) (fun c53 => ?_) (fun c53 => ?_)
                · skip
                  refine lv_iconst (v := 0) hx hb dX5_canSay_89 (by decide) ?_
                  obtain rfl := Option.some.inj hf
                  exact hret rfl rfl rfl hP hD hS dX5_canSay_90
                · exact absurd (by decide : (0 : Int32) = 0) c53
          · rw [if_neg c49] at hf
            refine lv_iload hx hb dX5_canSay_50 (lv_at hl 1 rfl) ?_
            refine lv_iload_n hx hb dX5_canSay_52 rfl (lv_at hl 5 rfl) ?_
            refine lv_iconst (v := 3) hx hb dX5_canSay_53 (by decide) ?_
            refine lv_isub hx hb dX5_canSay_54 ?_
            refine lv_icmp_lt (tgt := 62) hx hb dX5_canSay_55 (by decide) (fun c54 => ?_) (fun c54 => ?_)
            · rw [if_pos c54] at hf
              refine lv_iconst (v := 0) hx hb dX5_canSay_62 (by decide) ?_
              refine lv_istore (lv' := [(6, .int 0), (5, .int 0), (4, .int o2), (3, .int o1), (0, .ref (q 0)), (1, .int p0), (2, .int p1)]) hx hb dX5_canSay_63 hl (by decide) rfl (fun ls hl => ?_)
              refine lv_aload_n hx hb dX5_canSay_65 rfl (lv_at hl 4 rfl) ?_
              refine lv_iload_n hx hb dX5_canSay_66 rfl (lv_at hl 5 rfl) ?_
              refine lv_iconst (v := 1) hx hb dX5_canSay_67 (by decide) ?_
              obtain ⟨o55, ho55, hf⟩ := ob_el hf
              refine kcw_i (D := D) (va_runV (As := [.int p0, .int 1]) (rest := []) ⟨hx, hb, hml, hown, hts⟩ ((k_X5_manyOf l D K q vweight vkind vrhymes vpurse vhas vwishes vwishMany vsightLeft vsightRight vsightHow vsights vpad vpadMany vact vwho vwhich vwhom vacts vplace vopenMany vended vspoken vheaviest vheaviestWeight vhad vbadAct vbadWhy vbrings vbringsThen vkept visKept vkeptAt visWriting p0 (1) o55 ho55) H.size) (cwV 2 hts gX5_canSay_X5_manyOf rfl rfl rfl ⟨rfl, yd_X5_manyOf⟩ ⟨Nat.le_of_ble_eq_true rfl, Nat.le_of_ble_eq_true rfl⟩) (kPreV (ci := 5) (q0 := 0) hP rfl rfl hP hD hK hN) rfl rfl hl.1 rfl (lv_room (Nat.le_of_ble_eq_true rfl)) dX5_canSay_68 ⟨Nat.le_of_ble_eq_true rfl, Nat.le_of_ble_eq_true rfl⟩) hD hS hA (fun hzo55 H locs hP hD hS => ?_)
              have hP : va_P D vwCl (mdW K q vweight vkind vrhymes vpurse vhas vwishes vwishMany vsightLeft vsightRight vsightHow vsights vpad vpadMany vact vwho vwhich vwhom vacts vplace vopenMany vended vspoken vheaviest vheaviestWeight vhad vbadAct vbadWhy vbrings vbringsThen vkept visKept vkeptAt visWriting) H := hP
              have hD : va_D A (mdW K q vweight vkind vrhymes vpurse vhas vwishes vwishMany vsightLeft vsightRight vsightHow vsights vpad vpadMany vact vwho vwhich vwhom vacts vplace vopenMany vended vspoken vheaviest vheaviestWeight vhad vbadAct vbadWhy vbrings vbringsThen vkept visKept vkeptAt visWriting) := hD
              refine lv_iconst (v := 1) hx hb dX5_canSay_71 (by decide) ?_
              refine lv_icmp_lt (tgt := 89) hx hb dX5_canSay_72 (by decide) (fun c56 => ?_) (fun c56 => ?_)
              · rw [if_pos c56] at hf
                refine lv_iconst (v := 0) hx hb dX5_canSay_89 (by decide) ?_
                obtain rfl := Option.some.inj hf
                exact hret rfl rfl rfl hP hD hS dX5_canSay_90
              · rw [if_neg c56] at hf
                refine lv_iload hx hb dX5_canSay_75 (lv_at hl 1 rfl) ?_
                refine lv_if_ne (tgt := 85) hx hb dX5_canSay_77 (by decide) (fun c57 => ?_) (fun c57 => ?_)
                · exact absurd (by decide : (0 : Int32) = 0) c57
                · skip
                  refine lv_iload hx hb dX5_canSay_80 (lv_at hl 0 rfl) ?_
                  refine lv_if_eq (tgt := 89) hx hb dX5_canSay_82 (by decide) (fun c58 => ?_) (fun c58 => ?_)
                  · skip
                    refine lv_iconst (v := 0) hx hb dX5_canSay_89 (by decide) ?_
                    obtain rfl := Option.some.inj hf
                    exact hret rfl rfl rfl hP hD hS dX5_canSay_90
                  · exact absurd (by decide : (0 : Int32) = 0) c58
            · rw [if_neg c54] at hf
              refine lv_iconst (v := 1) hx hb dX5_canSay_58 (by decide) ?_
              refine lv_goto (tgt := 63) hx hb dX5_canSay_59 (by decide) ?_
              refine lv_istore (lv' := [(6, .int 1), (5, .int 0), (4, .int o2), (3, .int o1), (0, .ref (q 0)), (1, .int p0), (2, .int p1)]) hx hb dX5_canSay_63 hl (by decide) rfl (fun ls hl => ?_)
              refine lv_aload_n hx hb dX5_canSay_65 rfl (lv_at hl 4 rfl) ?_
              refine lv_iload_n hx hb dX5_canSay_66 rfl (lv_at hl 5 rfl) ?_
              refine lv_iconst (v := 1) hx hb dX5_canSay_67 (by decide) ?_
              obtain ⟨o59, ho59, hf⟩ := ob_el hf
              refine kcw_i (D := D) (va_runV (As := [.int p0, .int 1]) (rest := []) ⟨hx, hb, hml, hown, hts⟩ ((k_X5_manyOf l D K q vweight vkind vrhymes vpurse vhas vwishes vwishMany vsightLeft vsightRight vsightHow vsights vpad vpadMany vact vwho vwhich vwhom vacts vplace vopenMany vended vspoken vheaviest vheaviestWeight vhad vbadAct vbadWhy vbrings vbringsThen vkept visKept vkeptAt visWriting p0 (1) o59 ho59) H.size) (cwV 2 hts gX5_canSay_X5_manyOf rfl rfl rfl ⟨rfl, yd_X5_manyOf⟩ ⟨Nat.le_of_ble_eq_true rfl, Nat.le_of_ble_eq_true rfl⟩) (kPreV (ci := 5) (q0 := 0) hP rfl rfl hP hD hK hN) rfl rfl hl.1 rfl (lv_room (Nat.le_of_ble_eq_true rfl)) dX5_canSay_68 ⟨Nat.le_of_ble_eq_true rfl, Nat.le_of_ble_eq_true rfl⟩) hD hS hA (fun hzo59 H locs hP hD hS => ?_)
              have hP : va_P D vwCl (mdW K q vweight vkind vrhymes vpurse vhas vwishes vwishMany vsightLeft vsightRight vsightHow vsights vpad vpadMany vact vwho vwhich vwhom vacts vplace vopenMany vended vspoken vheaviest vheaviestWeight vhad vbadAct vbadWhy vbrings vbringsThen vkept visKept vkeptAt visWriting) H := hP
              have hD : va_D A (mdW K q vweight vkind vrhymes vpurse vhas vwishes vwishMany vsightLeft vsightRight vsightHow vsights vpad vpadMany vact vwho vwhich vwhom vacts vplace vopenMany vended vspoken vheaviest vheaviestWeight vhad vbadAct vbadWhy vbrings vbringsThen vkept visKept vkeptAt visWriting) := hD
              refine lv_iconst (v := 1) hx hb dX5_canSay_71 (by decide) ?_
              refine lv_icmp_lt (tgt := 89) hx hb dX5_canSay_72 (by decide) (fun c60 => ?_) (fun c60 => ?_)
              · rw [if_pos c60] at hf
                refine lv_iconst (v := 0) hx hb dX5_canSay_89 (by decide) ?_
                obtain rfl := Option.some.inj hf
                exact hret rfl rfl rfl hP hD hS dX5_canSay_90
              · rw [if_neg c60] at hf
                refine lv_iload hx hb dX5_canSay_75 (lv_at hl 1 rfl) ?_
                refine lv_if_ne (tgt := 85) hx hb dX5_canSay_77 (by decide) (fun c61 => ?_) (fun c61 => ?_)
                · exact absurd (by decide : (0 : Int32) = 0) c61
                · skip
                  refine lv_iload hx hb dX5_canSay_80 (lv_at hl 0 rfl) ?_
                  refine lv_if_eq (tgt := 89) hx hb dX5_canSay_82 (by decide) (fun c62 => ?_) (fun c62 => ?_)
                  · exact absurd c62 (by decide : ¬ (1 : Int32) = 0)
                  · skip
                    refine lv_iconst (v := 1) hx hb dX5_canSay_85 (by decide) ?_
                    refine lv_goto (tgt := 90) hx hb dX5_canSay_86 (by decide) ?_
                    obtain rfl := Option.some.inj hf
                    exact hret rfl rfl rfl hP hD hS dX5_canSay_90
      · rw [if_neg c43] at hf
        refine lv_iconst (v := 1) hx hb dX5_canSay_33 (by decide) ?_
        refine lv_goto (tgt := 38) hx hb dX5_canSay_34 (by decide) ?_
        refine lv_istore (lv' := [(5, .int 1), (4, .int o2), (3, .int o1), (0, .ref (q 0)), (1, .int p0), (2, .int p1)]) hx hb dX5_canSay_38 hl (by decide) rfl (fun ls hl => ?_)
        refine lv_iload_n hx hb dX5_canSay_40 rfl (lv_at hl 5 rfl) ?_
        refine lv_iconst (v := 3) hx hb dX5_canSay_41 (by decide) ?_
        refine lv_icmp_lt (tgt := 62) hx hb dX5_canSay_42 (by decide) (fun c63 => ?_) (fun c63 => ?_)
        · rw [if_pos c63] at hf
          refine lv_iconst (v := 0) hx hb dX5_canSay_62 (by decide) ?_
          refine lv_istore (lv' := [(6, .int 0), (5, .int 1), (4, .int o2), (3, .int o1), (0, .ref (q 0)), (1, .int p0), (2, .int p1)]) hx hb dX5_canSay_63 hl (by decide) rfl (fun ls hl => ?_)
          refine lv_aload_n hx hb dX5_canSay_65 rfl (lv_at hl 4 rfl) ?_
          refine lv_iload_n hx hb dX5_canSay_66 rfl (lv_at hl 5 rfl) ?_
          refine lv_iconst (v := 1) hx hb dX5_canSay_67 (by decide) ?_
          obtain ⟨o64, ho64, hf⟩ := ob_el hf
          refine kcw_i (D := D) (va_runV (As := [.int p0, .int 1]) (rest := []) ⟨hx, hb, hml, hown, hts⟩ ((k_X5_manyOf l D K q vweight vkind vrhymes vpurse vhas vwishes vwishMany vsightLeft vsightRight vsightHow vsights vpad vpadMany vact vwho vwhich vwhom vacts vplace vopenMany vended vspoken vheaviest vheaviestWeight vhad vbadAct vbadWhy vbrings vbringsThen vkept visKept vkeptAt visWriting p0 (1) o64 ho64) H.size) (cwV 2 hts gX5_canSay_X5_manyOf rfl rfl rfl ⟨rfl, yd_X5_manyOf⟩ ⟨Nat.le_of_ble_eq_true rfl, Nat.le_of_ble_eq_true rfl⟩) (kPreV (ci := 5) (q0 := 0) hP rfl rfl hP hD hK hN) rfl rfl hl.1 rfl (lv_room (Nat.le_of_ble_eq_true rfl)) dX5_canSay_68 ⟨Nat.le_of_ble_eq_true rfl, Nat.le_of_ble_eq_true rfl⟩) hD hS hA (fun hzo64 H locs hP hD hS => ?_)
          have hP : va_P D vwCl (mdW K q vweight vkind vrhymes vpurse vhas vwishes vwishMany vsightLeft vsightRight vsightHow vsights vpad vpadMany vact vwho vwhich vwhom vacts vplace vopenMany vended vspoken vheaviest vheaviestWeight vhad vbadAct vbadWhy vbrings vbringsThen vkept visKept vkeptAt visWriting) H := hP
          have hD : va_D A (mdW K q vweight vkind vrhymes vpurse vhas vwishes vwishMany vsightLeft vsightRight vsightHow vsights vpad vpadMany vact vwho vwhich vwhom vacts vplace vopenMany vended vspoken vheaviest vheaviestWeight vhad vbadAct vbadWhy vbrings vbringsThen vkept visKept vkeptAt visWriting) := hD
          refine lv_iconst (v := 1) hx hb dX5_canSay_71 (by decide) ?_
          refine lv_icmp_lt (tgt := 89) hx hb dX5_canSay_72 (by decide) (fun c65 => ?_) (fun c65 => ?_)
          · rw [if_pos c65] at hf
            refine lv_iconst (v := 0) hx hb dX5_canSay_89 (by decide) ?_
            obtain rfl := Option.some.inj hf
            exact hret rfl rfl rfl hP hD hS dX5_canSay_90
          · rw [if_neg c65] at hf
            refine lv_iload hx hb dX5_canSay_75 (lv_at hl 1 rfl) ?_
            refine lv_if_ne (tgt := 85) hx hb dX5_canSay_77 (by decide) (fun c66 => ?_) (fun c66 => ?_)
            · skip
              refine lv_iconst (v := 1) hx hb dX5_canSay_85 (by decide) ?_
              refine lv_goto (tgt := 90) hx hb dX5_canSay_86 (by decide) ?_
              obtain rfl := Option.some.inj hf
              exact hret rfl rfl rfl hP hD hS dX5_canSay_90
            · exact absurd c66 (by decide : ¬ (1 : Int32) = 0)
        · rw [if_neg c63] at hf
          refine lv_iload_n hx hb dX5_canSay_45 rfl (lv_at hl 2 rfl) ?_
          refine lv_iconst (v := 2) hx hb dX5_canSay_46 (by decide) ?_
          refine lv_icmp_lt (tgt := 62) hx hb dX5_canSay_47 (by decide) (fun c67 => ?_) (fun c67 => ?_)
          · rw [if_pos c67] at hf
            refine lv_iconst (v := 0) hx hb dX5_canSay_62 (by decide) ?_
            refine lv_istore (lv' := [(6, .int 0), (5, .int 1), (4, .int o2), (3, .int o1), (0, .ref (q 0)), (1, .int p0), (2, .int p1)]) hx hb dX5_canSay_63 hl (by decide) rfl (fun ls hl => ?_)
            refine lv_aload_n hx hb dX5_canSay_65 rfl (lv_at hl 4 rfl) ?_
            refine lv_iload_n hx hb dX5_canSay_66 rfl (lv_at hl 5 rfl) ?_
            refine lv_iconst (v := 1) hx hb dX5_canSay_67 (by decide) ?_
            obtain ⟨o68, ho68, hf⟩ := ob_el hf
            refine kcw_i (D := D) (va_runV (As := [.int p0, .int 1]) (rest := []) ⟨hx, hb, hml, hown, hts⟩ ((k_X5_manyOf l D K q vweight vkind vrhymes vpurse vhas vwishes vwishMany vsightLeft vsightRight vsightHow vsights vpad vpadMany vact vwho vwhich vwhom vacts vplace vopenMany vended vspoken vheaviest vheaviestWeight vhad vbadAct vbadWhy vbrings vbringsThen vkept visKept vkeptAt visWriting p0 (1) o68 ho68) H.size) (cwV 2 hts gX5_canSay_X5_manyOf rfl rfl rfl ⟨rfl, yd_X5_manyOf⟩ ⟨Nat.le_of_ble_eq_true rfl, Nat.le_of_ble_eq_true rfl⟩) (kPreV (ci := 5) (q0 := 0) hP rfl rfl hP hD hK hN) rfl rfl hl.1 rfl (lv_room (Nat.le_of_ble_eq_true rfl)) dX5_canSay_68 ⟨Nat.le_of_ble_eq_true rfl, Nat.le_of_ble_eq_true rfl⟩) hD hS hA (fun hzo68 H locs hP hD hS => ?_)
            have hP : va_P D vwCl (mdW K q vweight vkind vrhymes vpurse vhas vwishes vwishMany vsightLeft vsightRight vsightHow vsights vpad vpadMany vact vwho vwhich vwhom vacts vplace vopenMany vended vspoken vheaviest vheaviestWeight vhad vbadAct vbadWhy vbrings vbringsThen vkept visKept vkeptAt visWriting) H := hP
            have hD : va_D A (mdW K q vweight vkind vrhymes vpurse vhas vwishes vwishMany vsightLeft vsightRight vsightHow vsights vpad vpadMany vact vwho vwhich vwhom vacts vplace vopenMany vended vspoken vheaviest vheaviestWeight vhad vbadAct vbadWhy vbrings vbringsThen vkept visKept vkeptAt visWriting) := hD
            refine lv_iconst (v := 1) hx hb dX5_canSay_71 (by decide) ?_
            refine lv_icmp_lt (tgt := 89) hx hb dX5_canSay_72 (by decide) (fun c69 => ?_) (fun c69 => ?_)
            · rw [if_pos c69] at hf
              refine lv_iconst (v := 0) hx hb dX5_canSay_89 (by decide) ?_
              obtain rfl := Option.some.inj hf
              exact hret rfl rfl rfl hP hD hS dX5_canSay_90
            · rw [if_neg c69] at hf
              refine lv_iload hx hb dX5_canSay_75 (lv_at hl 1 rfl) ?_
              refine lv_if_ne (tgt := 85) hx hb dX5_canSay_77 (by decide) (fun c70 => ?_) (fun c70 => ?_)
              · skip
                refine lv_iconst (v := 1) hx hb dX5_canSay_85 (by decide) ?_
                refine lv_goto (tgt := 90) hx hb dX5_canSay_86 (by decide) ?_
                obtain rfl := Option.some.inj hf
                exact hret rfl rfl rfl hP hD hS dX5_canSay_90
              · exact absurd c70 (by decide : ¬ (1 : Int32) = 0)
          · rw [if_neg c67] at hf
            refine lv_iload hx hb dX5_canSay_50 (lv_at hl 1 rfl) ?_
            refine lv_iload_n hx hb dX5_canSay_52 rfl (lv_at hl 5 rfl) ?_
            refine lv_iconst (v := 3) hx hb dX5_canSay_53 (by decide) ?_
            refine lv_isub hx hb dX5_canSay_54 ?_
            refine lv_icmp_lt (tgt := 62) hx hb dX5_canSay_55 (by decide) (fun c71 => ?_) (fun c71 => ?_)
            · rw [if_pos c71] at hf
              refine lv_iconst (v := 0) hx hb dX5_canSay_62 (by decide) ?_
              refine lv_istore (lv' := [(6, .int 0), (5, .int 1), (4, .int o2), (3, .int o1), (0, .ref (q 0)), (1, .int p0), (2, .int p1)]) hx hb dX5_canSay_63 hl (by decide) rfl (fun ls hl => ?_)
              refine lv_aload_n hx hb dX5_canSay_65 rfl (lv_at hl 4 rfl) ?_
              refine lv_iload_n hx hb dX5_canSay_66 rfl (lv_at hl 5 rfl) ?_
              refine lv_iconst (v := 1) hx hb dX5_canSay_67 (by decide) ?_
              obtain ⟨o72, ho72, hf⟩ := ob_el hf
              refine kcw_i (D := D) (va_runV (As := [.int p0, .int 1]) (rest := []) ⟨hx, hb, hml, hown, hts⟩ ((k_X5_manyOf l D K q vweight vkind vrhymes vpurse vhas vwishes vwishMany vsightLeft vsightRight vsightHow vsights vpad vpadMany vact vwho vwhich vwhom vacts vplace vopenMany vended vspoken vheaviest vheaviestWeight vhad vbadAct vbadWhy vbrings vbringsThen vkept visKept vkeptAt visWriting p0 (1) o72 ho72) H.size) (cwV 2 hts gX5_canSay_X5_manyOf rfl rfl rfl ⟨rfl, yd_X5_manyOf⟩ ⟨Nat.le_of_ble_eq_true rfl, Nat.le_of_ble_eq_true rfl⟩) (kPreV (ci := 5) (q0 := 0) hP rfl rfl hP hD hK hN) rfl rfl hl.1 rfl (lv_room (Nat.le_of_ble_eq_true rfl)) dX5_canSay_68 ⟨Nat.le_of_ble_eq_true rfl, Nat.le_of_ble_eq_true rfl⟩) hD hS hA (fun hzo72 H locs hP hD hS => ?_)
              have hP : va_P D vwCl (mdW K q vweight vkind vrhymes vpurse vhas vwishes vwishMany vsightLeft vsightRight vsightHow vsights vpad vpadMany vact vwho vwhich vwhom vacts vplace vopenMany vended vspoken vheaviest vheaviestWeight vhad vbadAct vbadWhy vbrings vbringsThen vkept visKept vkeptAt visWriting) H := hP
              have hD : va_D A (mdW K q vweight vkind vrhymes vpurse vhas vwishes vwishMany vsightLeft vsightRight vsightHow vsights vpad vpadMany vact vwho vwhich vwhom vacts vplace vopenMany vended vspoken vheaviest vheaviestWeight vhad vbadAct vbadWhy vbrings vbringsThen vkept visKept vkeptAt visWriting) := hD
              refine lv_iconst (v := 1) hx hb dX5_canSay_71 (by decide) ?_
              refine lv_icmp_lt (tgt := 89) hx hb dX5_canSay_72 (by decide) (fun c73 => ?_) (fun c73 => ?_)
              · rw [if_pos c73] at hf
                refine lv_iconst (v := 0) hx hb dX5_canSay_89 (by decide) ?_
                obtain rfl := Option.some.inj hf
                exact hret rfl rfl rfl hP hD hS dX5_canSay_90
              · rw [if_neg c73] at hf
                refine lv_iload hx hb dX5_canSay_75 (lv_at hl 1 rfl) ?_
                refine lv_if_ne (tgt := 85) hx hb dX5_canSay_77 (by decide) (fun c74 => ?_) (fun c74 => ?_)
                · skip
                  refine lv_iconst (v := 1) hx hb dX5_canSay_85 (by decide) ?_
                  refine lv_goto (tgt := 90) hx hb dX5_canSay_86 (by decide) ?_
                  obtain rfl := Option.some.inj hf
                  exact hret rfl rfl rfl hP hD hS dX5_canSay_90
                · exact absurd c74 (by decide : ¬ (1 : Int32) = 0)
            · rw [if_neg c71] at hf
              refine lv_iconst (v := 1) hx hb dX5_canSay_58 (by decide) ?_
              refine lv_goto (tgt := 63) hx hb dX5_canSay_59 (by decide) ?_
              refine lv_istore (lv' := [(6, .int 1), (5, .int 1), (4, .int o2), (3, .int o1), (0, .ref (q 0)), (1, .int p0), (2, .int p1)]) hx hb dX5_canSay_63 hl (by decide) rfl (fun ls hl => ?_)
              refine lv_aload_n hx hb dX5_canSay_65 rfl (lv_at hl 4 rfl) ?_
              refine lv_iload_n hx hb dX5_canSay_66 rfl (lv_at hl 5 rfl) ?_
              refine lv_iconst (v := 1) hx hb dX5_canSay_67 (by decide) ?_
              obtain ⟨o75, ho75, hf⟩ := ob_el hf
              refine kcw_i (D := D) (va_runV (As := [.int p0, .int 1]) (rest := []) ⟨hx, hb, hml, hown, hts⟩ ((k_X5_manyOf l D K q vweight vkind vrhymes vpurse vhas vwishes vwishMany vsightLeft vsightRight vsightHow vsights vpad vpadMany vact vwho vwhich vwhom vacts vplace vopenMany vended vspoken vheaviest vheaviestWeight vhad vbadAct vbadWhy vbrings vbringsThen vkept visKept vkeptAt visWriting p0 (1) o75 ho75) H.size) (cwV 2 hts gX5_canSay_X5_manyOf rfl rfl rfl ⟨rfl, yd_X5_manyOf⟩ ⟨Nat.le_of_ble_eq_true rfl, Nat.le_of_ble_eq_true rfl⟩) (kPreV (ci := 5) (q0 := 0) hP rfl rfl hP hD hK hN) rfl rfl hl.1 rfl (lv_room (Nat.le_of_ble_eq_true rfl)) dX5_canSay_68 ⟨Nat.le_of_ble_eq_true rfl, Nat.le_of_ble_eq_true rfl⟩) hD hS hA (fun hzo75 H locs hP hD hS => ?_)
              have hP : va_P D vwCl (mdW K q vweight vkind vrhymes vpurse vhas vwishes vwishMany vsightLeft vsightRight vsightHow vsights vpad vpadMany vact vwho vwhich vwhom vacts vplace vopenMany vended vspoken vheaviest vheaviestWeight vhad vbadAct vbadWhy vbrings vbringsThen vkept visKept vkeptAt visWriting) H := hP
              have hD : va_D A (mdW K q vweight vkind vrhymes vpurse vhas vwishes vwishMany vsightLeft vsightRight vsightHow vsights vpad vpadMany vact vwho vwhich vwhom vacts vplace vopenMany vended vspoken vheaviest vheaviestWeight vhad vbadAct vbadWhy vbrings vbringsThen vkept visKept vkeptAt visWriting) := hD
              refine lv_iconst (v := 1) hx hb dX5_canSay_71 (by decide) ?_
              refine lv_icmp_lt (tgt := 89) hx hb dX5_canSay_72 (by decide) (fun c76 => ?_) (fun c76 => ?_)
              · rw [if_pos c76] at hf
                refine lv_iconst (v := 0) hx hb dX5_canSay_89 (by decide) ?_
                obtain rfl := Option.some.inj hf
                exact hret rfl rfl rfl hP hD hS dX5_canSay_90
              · rw [if_neg c76] at hf
                refine lv_iload hx hb dX5_canSay_75 (lv_at hl 1 rfl) ?_
                refine lv_if_ne (tgt := 85) hx hb dX5_canSay_77 (by decide) (fun c77 => ?_) (fun c77 => ?_)
                · skip
                  refine lv_iconst (v := 1) hx hb dX5_canSay_85 (by decide) ?_
                  refine lv_goto (tgt := 90) hx hb dX5_canSay_86 (by decide) ?_
                  obtain rfl := Option.some.inj hf
                  exact hret rfl rfl rfl hP hD hS dX5_canSay_90
                · exact absurd c77 (by decide : ¬ (1 : Int32) = 0)
def s_X5_pool_44 (vhas : Nat → Int32) (x31_l4 : Int32) (x : Int32 × Int32) : Option ((Int32 × Int32) ⊕ (Int32 × Int32)) := if 4 ≤ x.2 then (some (.inr (x.1, x.2))) else (if ((x31_l4 >>> (x.2 &&& 31)) &&& 1) = 1 then (chk x.2 4 (some (.inl ((x.1 ||| (vhas (x.2).toNatClampNeg)), (x.2 + 1))))) else (some (.inl ((x.1 ||| 0), (x.2 + 1)))))
def s_X5_pool_31 (vkind : Nat → Int32) (vhas : Nat → Int32) (p0 : Int32) (x : Int32 × Int32) : Option ((Int32 × Int32) ⊕ (Int32 × Int32)) := if 16 ≤ x.2 then (some (.inr (x.1, x.2))) else (ob (wh (s_X5_pool_44 vhas x.2) 5000 (0, 0)) (fun r10 => ob (f_X5_canSay vkind r10.1 p0) (fun o11 => if o11 = 0 then (some (.inl (x.1, (x.2 + 1)))) else (if x.1 < 0 then (some (.inl (x.2, (x.2 + 1)))) else (ob (f_X5_ones x.2) (fun o14 => ob (f_X5_ones x.1) (fun o15 => if o15 ≤ o14 then (some (.inl (x.1, (x.2 + 1)))) else (some (.inl (x.2, (x.2 + 1)))))))))))
def f_X5_pool (vkind : Nat → Int32) (vhas : Nat → Int32) (p0 : Int32) (p1 : Int32) : Option (Int32) := bd (f_X5_in p0.toInt64 (1) (8)) (fun o1 => if o1 = 0 then (some (-2)) else (bd (f_X5_in p1.toInt64 (0) (1)) (fun o3 => if o3 = 0 then (some (-2)) else (ob (wh (s_X5_pool_31 vkind vhas p0) 5000 ((-6), 1)) (fun r5 => if r5.1 < 0 then (some r5.1) else (if p1 = 1 then (some r5.1) else (ob (f_X5_ones r5.1) (fun o8 => some o8))))))))
theorem inX5_pool_X5 : ∀ w ∈ wsX50, w ∈ wsX5_pool := fun w h => List.mem_cons_of_mem _ (List.mem_append_right _ h)
theorem yd_X5_pool : yX5_pool.cls ≠ "java/lang/invoke/MethodHandle" ∧ yX5_pool.cls ≠ "java/lang/invoke/VarHandle" ∧ (parseMethodDescriptor yX5_pool.desc).map (fun d => d.parameters.length) = some 2 := by decide +kernel
abbrev rmX5_pool : Room := { frames := 2, cells := 0, slots := 0, locals := 50 }
set_option maxHeartbeats 4000000 in
set_option maxRecDepth 100000 in
theorem k_X5_pool (l : Launch) (D : va_G) (K : Nat → ClassId) (q : Nat → Nat) (vweight : Nat → Int32) (vkind : Nat → Int32) (vrhymes : Nat → Int32) (vpurse : Nat → Int32) (vhas : Nat → Int32) (vwishes : Nat → Int32) (vwishMany : Int32) (vsightLeft : Nat → Int32) (vsightRight : Nat → Int32) (vsightHow : Nat → Int32) (vsights : Int32) (vpad : Nat → Int32) (vpadMany : Int32) (vact : Nat → Int32) (vwho : Nat → Int32) (vwhich : Nat → Int32) (vwhom : Nat → Int32) (vacts : Int32) (vplace : Int32) (vopenMany : Int32) (vended : Int32) (vspoken : Int32) (vheaviest : Int32) (vheaviestWeight : Int32) (vhad : Nat → Int32) (vbadAct : Int32) (vbadWhy : Int32) (vbrings : Nat → Int64) (vbringsThen : Nat → Int64) (vkept : Nat → Int32) (visKept : Nat → Int32) (vkeptAt : Int32) (visWriting : Int32) (p0 : Int32) (p1 : Int32) (out : Int32) (hf : f_X5_pool vkind vhas p0 p1 = some out) : kI l D K .int yX5_pool wsX5_pool rmX5_pool [.ref (q 0), .int p0, .int p1] (mdW K q vweight vkind vrhymes vpurse vhas vwishes vwishMany vsightLeft vsightRight vsightHow vsights vpad vpadMany vact vwho vwhich vwhom vacts vplace vopenMany vended vspoken vheaviest vheaviestWeight vhad vbadAct vbadWhy vbrings vbringsThen vkept visKept vkeptAt visWriting) out (mdW K q vweight vkind vrhymes vpurse vhas vwishes vwishMany vsightLeft vsightRight vsightHow vsights vpad vpadMany vact vwho vwhich vwhom vacts vplace vopenMany vended vspoken vheaviest vheaviestWeight vhad vbadAct vbadWhy vbrings vbringsThen vkept visKept vkeptAt visWriting) := by
  refine kI.of (cc := cX5_pool) (maxL := 7) (by decide) rfl (Nat.le_of_ble_eq_true rfl) ?_
  intro p e s m args below meth c A H0 Q ls hx hb hml hown hts hK hN hA hP hD hS hl hret
  have hown : s.vm.findClass RX5 = some m.cls := hown
  have hl : lv_has ls 7 [(0, .ref (q 0)), (1, .int p0), (2, .int p1)] := hl
  generalize hH : H0 = H at hP ⊢
  have hS : va_S A H0 H [] := by rw [← hH]; exact hS
  clear hH
  unfold f_X5_pool at hf
  refine lv_iload_n hx hb dX5_pool_0 rfl (lv_at hl 1 rfl) ?_
  refine lv_i2l (v := p0.toInt64) hx hb dX5_pool_1 rfl ?_
  refine lv_lconst (v := 1) hx hb dX5_pool_2 (by decide) ?_
  refine lv_ldc2 hx hb hown (hts (.constantLong RX5 198 (8)) (List.mem_of_getElem? (i := 1) rfl)) dX5_pool_3 ?_
  obtain ⟨o1, ho1, hf⟩ := bd_el hf
  refine kc0_i (D := D) (va_runS (As := [.long p0.toInt64, .long 1, .long 8]) (rest := []) ⟨hx, hb, hml, hown, hts⟩ ((k_X5_in l D K p0.toInt64 (1) (8) o1 ho1) H.size) (va_cwS 3 hts gX5_pool_X5_in rfl rfl rfl yd_X5_in ⟨Nat.le_of_ble_eq_true rfl, Nat.le_of_ble_eq_true rfl⟩) (kPreS va_P_nil (va_D_nil (A := fun _ => True)) hK hN) rfl rfl hl.1 rfl (lv_room (Nat.le_of_ble_eq_true rfl)) dX5_pool_6 ⟨Nat.le_of_ble_eq_true rfl, Nat.le_of_ble_eq_true rfl⟩) hP hS hA (fun hzo1 H locs hP hS => ?_)
  refine lv_if_eq (tgt := 22) hx hb dX5_pool_9 (by decide) (fun c2 => ?_) (fun c2 => ?_)
  · rw [if_pos c2] at hf
    refine lv_bipush (v := (-2)) hx hb dX5_pool_22 (by decide) ?_
    obtain rfl := Option.some.inj hf
    exact hret rfl rfl rfl hP hD hS dX5_pool_24
  · rw [if_neg c2] at hf
    refine lv_iload_n hx hb dX5_pool_12 rfl (lv_at hl 2 rfl) ?_
    refine lv_i2l (v := p1.toInt64) hx hb dX5_pool_13 rfl ?_
    refine lv_lconst (v := 0) hx hb dX5_pool_14 (by decide) ?_
    refine lv_lconst (v := 1) hx hb dX5_pool_15 (by decide) ?_
    obtain ⟨o3, ho3, hf⟩ := bd_el hf
    refine kc0_i (D := D) (va_runS (As := [.long p1.toInt64, .long 0, .long 1]) (rest := []) ⟨hx, hb, hml, hown, hts⟩ ((k_X5_in l D K p1.toInt64 (0) (1) o3 ho3) H.size) (va_cwS 3 hts gX5_pool_X5_in rfl rfl rfl yd_X5_in ⟨Nat.le_of_ble_eq_true rfl, Nat.le_of_ble_eq_true rfl⟩) (kPreS va_P_nil (va_D_nil (A := fun _ => True)) hK hN) rfl rfl hl.1 rfl (lv_room (Nat.le_of_ble_eq_true rfl)) dX5_pool_16 ⟨Nat.le_of_ble_eq_true rfl, Nat.le_of_ble_eq_true rfl⟩) hP hS hA (fun hzo3 H locs hP hS => ?_)
    refine lv_if_ne (tgt := 25) hx hb dX5_pool_19 (by decide) (fun c4 => ?_) (fun c4 => ?_)
    · rw [if_neg c4] at hf
      refine lv_bipush (v := (-6)) hx hb dX5_pool_25 (by decide) ?_
      refine lv_istore_n (lv' := [(3, .int (-6)), (0, .ref (q 0)), (1, .int p0), (2, .int p1)]) hx hb dX5_pool_27 rfl hl (by decide) rfl (fun ls hl => ?_)
      refine lv_iconst (v := 1) hx hb dX5_pool_28 (by decide) ?_
      refine lv_istore (lv' := [(4, .int 1), (3, .int (-6)), (0, .ref (q 0)), (1, .int p0), (2, .int p1)]) hx hb dX5_pool_29 hl (by decide) rfl (fun ls hl => ?_)
      obtain ⟨r5, hr5, hf⟩ := ob_el hf
      have post31 : ∀ (e31_l3 : Int32) (e31_l4 : Int32) (H : Heap) (locs : List Loc) (ls : Array Slot), (if e31_l3 < 0 then (some e31_l3) else (if p1 = 1 then (some e31_l3) else (ob (f_X5_ones e31_l3) (fun o8 => some o8)))) = some out → va_P D vwCl (mdW K q vweight vkind vrhymes vpurse vhas vwishes vwishMany vsightLeft vsightRight vsightHow vsights vpad vpadMany vact vwho vwhich vwhom vacts vplace vopenMany vended vspoken vheaviest vheaviestWeight vhad vbadAct vbadWhy vbrings vbringsThen vkept visKept vkeptAt visWriting) H → va_D A (mdW K q vweight vkind vrhymes vpurse vhas vwishes vwishMany vsightLeft vsightRight vsightHow vsights vpad vpadMany vact vwho vwhich vwhom vacts vplace vopenMany vended vspoken vheaviest vheaviestWeight vhad vbadAct vbadWhy vbrings vbringsThen vkept visKept vkeptAt visWriting) → va_S A H0 H locs → lv_has ls 7 [(4, .int e31_l4), (3, .int e31_l3), (0, .ref (q 0)), (1, .int p0), (2, .int p1)] → W p l e rmX5_pool s m args below meth c H locs 0 0 Q (F0 m 122 ls []) := by
        intro e31_l3 e31_l4 H locs ls hf hP hD hS hl
        refine lv_iload_n hx hb dX5_pool_122 rfl (lv_at hl 1 rfl) ?_
        refine lv_if_lt (tgt := 131) hx hb dX5_pool_123 (by decide) (fun c6 => ?_) (fun c6 => ?_)
        · rw [if_pos c6] at hf
          refine lv_iload_n hx hb dX5_pool_131 rfl (lv_at hl 1 rfl) ?_
          refine lv_goto (tgt := 139) hx hb dX5_pool_132 (by decide) ?_
          obtain rfl := Option.some.inj hf
          exact hret rfl rfl rfl hP hD hS dX5_pool_139
        · rw [if_neg c6] at hf
          refine lv_iload_n hx hb dX5_pool_126 rfl (lv_at hl 4 rfl) ?_
          refine lv_iconst (v := 1) hx hb dX5_pool_127 (by decide) ?_
          refine lv_icmp_ne (tgt := 135) hx hb dX5_pool_128 (by decide) (fun c7 => ?_) (fun c7 => ?_)
          · rw [if_neg c7] at hf
            refine lv_iload_n hx hb dX5_pool_135 rfl (lv_at hl 1 rfl) ?_
            obtain ⟨o8, ho8, hf⟩ := ob_el hf
            refine kc0_i (D := D) (va_runS (As := [.int e31_l3]) (rest := []) ⟨hx, hb, hml, hown, hts⟩ ((k_X5_ones l D K e31_l3 o8 ho8) H.size) (va_cwS 1 hts gX5_pool_X5_ones rfl rfl rfl yd_X5_ones ⟨Nat.le_of_ble_eq_true rfl, Nat.le_of_ble_eq_true rfl⟩) (kPreS va_P_nil (va_D_nil (A := fun _ => True)) hK hN) rfl rfl hl.1 rfl (lv_room (Nat.le_of_ble_eq_true rfl)) dX5_pool_136 ⟨Nat.le_of_ble_eq_true rfl, Nat.le_of_ble_eq_true rfl⟩) hP hS hA (fun hzo8 H locs hP hS => ?_)
            obtain rfl := Option.some.inj hf
            exact hret rfl rfl rfl hP hD hS dX5_pool_139
          · rw [if_pos c7] at hf
            refine lv_iload_n hx hb dX5_pool_131 rfl (lv_at hl 1 rfl) ?_
            refine lv_goto (tgt := 139) hx hb dX5_pool_132 (by decide) ?_
            obtain rfl := Option.some.inj hf
            exact hret rfl rfl rfl hP hD hS dX5_pool_139
      have lp31 : ∀ (fu : Nat) (x31_l3 : Int32) (x31_l4 : Int32) (H : Heap) (locs : List Loc) (ls : Array Slot), wh (s_X5_pool_31 vkind vhas p0) fu (x31_l3, x31_l4) = some r5 → va_P D vwCl (mdW K q vweight vkind vrhymes vpurse vhas vwishes vwishMany vsightLeft vsightRight vsightHow vsights vpad vpadMany vact vwho vwhich vwhom vacts vplace vopenMany vended vspoken vheaviest vheaviestWeight vhad vbadAct vbadWhy vbrings vbringsThen vkept visKept vkeptAt visWriting) H → va_D A (mdW K q vweight vkind vrhymes vpurse vhas vwishes vwishMany vsightLeft vsightRight vsightHow vsights vpad vpadMany vact vwho vwhich vwhom vacts vplace vopenMany vended vspoken vheaviest vheaviestWeight vhad vbadAct vbadWhy vbrings vbringsThen vkept visKept vkeptAt visWriting) → va_S A H0 H locs → lv_has ls 7 [(4, .int x31_l4), (3, .int x31_l3), (0, .ref (q 0)), (1, .int p0), (2, .int p1)] → W p l e rmX5_pool s m args below meth c H locs 0 0 Q (F0 m 31 ls []) := by
        intro fu
        induction fu with
        | zero => intro x31_l3 x31_l4 H locs ls hw31; cases hw31
        | succ fu ih31 =>
          intro x31_l3 x31_l4 H locs ls hw31 hP hD hS hl
          obtain ⟨o31_, hs31, hw31⟩ := wh_el hw31
          unfold s_X5_pool_31 at hs31
          dsimp only at hs31
          refine lv_iload hx hb dX5_pool_31 (lv_at hl 0 rfl) ?_
          refine lv_bipush (v := 16) hx hb dX5_pool_33 (by decide) ?_
          refine lv_icmp_ge (tgt := 122) hx hb dX5_pool_35 (by decide) (fun c9 => ?_) (fun c9 => ?_)
          · rw [if_pos c9] at hs31
            obtain rfl := Option.some.inj hs31
            have e9 := Option.some.inj hw31
            rw [← e9] at hf
            exact post31 _ _ _ _ _ hf hP hD hS (lv_sub hl [0, 1, 2, 3, 4] rfl)
          · rw [if_neg c9] at hs31
            refine lv_iconst (v := 0) hx hb dX5_pool_38 (by decide) ?_
            refine lv_istore (lv' := [(5, .int 0), (4, .int x31_l4), (3, .int x31_l3), (0, .ref (q 0)), (1, .int p0), (2, .int p1)]) hx hb dX5_pool_39 hl (by decide) rfl (fun ls hl => ?_)
            refine lv_iconst (v := 0) hx hb dX5_pool_41 (by decide) ?_
            refine lv_istore (lv' := [(6, .int 0), (5, .int 0), (4, .int x31_l4), (3, .int x31_l3), (0, .ref (q 0)), (1, .int p0), (2, .int p1)]) hx hb dX5_pool_42 hl (by decide) rfl (fun ls hl => ?_)
            obtain ⟨r10, hr10, hs31⟩ := ob_el hs31
            have post44 : ∀ (e44_l5 : Int32) (e44_l6 : Int32) (H : Heap) (locs : List Loc) (ls : Array Slot), (ob (f_X5_canSay vkind e44_l5 p0) (fun o11 => if o11 = 0 then (some (.inl (x31_l3, (x31_l4 + 1)))) else (if x31_l3 < 0 then (some (.inl (x31_l4, (x31_l4 + 1)))) else (ob (f_X5_ones x31_l4) (fun o14 => ob (f_X5_ones x31_l3) (fun o15 => if o15 ≤ o14 then (some (.inl (x31_l3, (x31_l4 + 1)))) else (some (.inl (x31_l4, (x31_l4 + 1)))))))))) = some o31_ → va_P D vwCl (mdW K q vweight vkind vrhymes vpurse vhas vwishes vwishMany vsightLeft vsightRight vsightHow vsights vpad vpadMany vact vwho vwhich vwhom vacts vplace vopenMany vended vspoken vheaviest vheaviestWeight vhad vbadAct vbadWhy vbrings vbringsThen vkept visKept vkeptAt visWriting) H → va_D A (mdW K q vweight vkind vrhymes vpurse vhas vwishes vwishMany vsightLeft vsightRight vsightHow vsights vpad vpadMany vact vwho vwhich vwhom vacts vplace vopenMany vended vspoken vheaviest vheaviestWeight vhad vbadAct vbadWhy vbrings vbringsThen vkept visKept vkeptAt visWriting) → va_S A H0 H locs → lv_has ls 7 [(6, .int e44_l6), (5, .int e44_l5), (4, .int x31_l4), (3, .int x31_l3), (0, .ref (q 0)), (1, .int p0), (2, .int p1)] → W p l e rmX5_pool s m args below meth c H locs 0 0 Q (F0 m 83 ls []) := by
              intro e44_l5 e44_l6 H locs ls hs31 hP hD hS hl
              refine lv_aload_n hx hb dX5_pool_83 rfl (lv_at hl 4 rfl) ?_
              refine lv_iload hx hb dX5_pool_84 (lv_at hl 1 rfl) ?_
              refine lv_iload_n hx hb dX5_pool_86 rfl (lv_at hl 5 rfl) ?_
              obtain ⟨o11, ho11, hs31⟩ := ob_el hs31
              refine kcw_i (D := D) (va_runV (As := [.int e44_l5, .int p0]) (rest := []) ⟨hx, hb, hml, hown, hts⟩ ((k_X5_canSay l D K q vweight vkind vrhymes vpurse vhas vwishes vwishMany vsightLeft vsightRight vsightHow vsights vpad vpadMany vact vwho vwhich vwhom vacts vplace vopenMany vended vspoken vheaviest vheaviestWeight vhad vbadAct vbadWhy vbrings vbringsThen vkept visKept vkeptAt visWriting e44_l5 p0 o11 ho11) H.size) (cwV 2 hts gX5_pool_X5_canSay rfl rfl rfl ⟨rfl, yd_X5_canSay⟩ ⟨Nat.le_of_ble_eq_true rfl, Nat.le_of_ble_eq_true rfl⟩) (kPreV (ci := 5) (q0 := 0) hP rfl rfl hP hD hK hN) rfl rfl hl.1 rfl (lv_room (Nat.le_of_ble_eq_true rfl)) dX5_pool_87 ⟨Nat.le_of_ble_eq_true rfl, Nat.le_of_ble_eq_true rfl⟩) hD hS hA (fun hzo11 H locs hP hD hS => ?_)
              have hP : va_P D vwCl (mdW K q vweight vkind vrhymes vpurse vhas vwishes vwishMany vsightLeft vsightRight vsightHow vsights vpad vpadMany vact vwho vwhich vwhom vacts vplace vopenMany vended vspoken vheaviest vheaviestWeight vhad vbadAct vbadWhy vbrings vbringsThen vkept visKept vkeptAt visWriting) H := hP
              have hD : va_D A (mdW K q vweight vkind vrhymes vpurse vhas vwishes vwishMany vsightLeft vsightRight vsightHow vsights vpad vpadMany vact vwho vwhich vwhom vacts vplace vopenMany vended vspoken vheaviest vheaviestWeight vhad vbadAct vbadWhy vbrings vbringsThen vkept visKept vkeptAt visWriting) := hD
              refine lv_if_eq (tgt := 114) hx hb dX5_pool_90 (by decide) (fun c12 => ?_) (fun c12 => ?_)
              · rw [if_pos c12] at hs31
                refine lv_iload_n hx hb dX5_pool_114 rfl (lv_at hl 3 rfl) ?_
                refine lv_istore_n (lv' := [(3, .int x31_l3), (6, .int e44_l6), (5, .int e44_l5), (4, .int x31_l4), (0, .ref (q 0)), (1, .int p0), (2, .int p1)]) hx hb dX5_pool_115 rfl hl (by decide) rfl (fun ls hl => ?_)
                refine lv_iinc (v := (x31_l4 + 1)) (lv' := [(4, .int (x31_l4 + 1)), (3, .int x31_l3), (6, .int e44_l6), (5, .int e44_l5), (0, .ref (q 0)), (1, .int p0), (2, .int p1)]) hx hb dX5_pool_116 hl (k := 3) rfl (by rfl) (by decide) rfl (fun ls hl => ?_)
                refine lv_goto (tgt := 31) hx hb dX5_pool_119 (by decide) ?_
                obtain rfl := Option.some.inj hs31
                exact ih31 _ _ _ _ _ hw31 hP hD hS (lv_sub hl [0, 1, 4, 5, 6] rfl)
              · rw [if_neg c12] at hs31
                refine lv_iload_n hx hb dX5_pool_93 rfl (lv_at hl 3 rfl) ?_
                refine lv_if_lt (tgt := 109) hx hb dX5_pool_94 (by decide) (fun c13 => ?_) (fun c13 => ?_)
                · rw [if_pos c13] at hs31
                  refine lv_iload hx hb dX5_pool_109 (lv_at hl 2 rfl) ?_
                  refine lv_goto (tgt := 115) hx hb dX5_pool_111 (by decide) ?_
                  refine lv_istore_n (lv' := [(3, .int x31_l4), (6, .int e44_l6), (5, .int e44_l5), (4, .int x31_l4), (0, .ref (q 0)), (1, .int p0), (2, .int p1)]) hx hb dX5_pool_115 rfl hl (by decide) rfl (fun ls hl => ?_)
                  refine lv_iinc (v := (x31_l4 + 1)) (lv' := [(4, .int (x31_l4 + 1)), (3, .int x31_l4), (6, .int e44_l6), (5, .int e44_l5), (0, .ref (q 0)), (1, .int p0), (2, .int p1)]) hx hb dX5_pool_116 hl (k := 3) rfl (by rfl) (by decide) rfl (fun ls hl => ?_)
                  refine lv_goto (tgt := 31) hx hb dX5_pool_119 (by decide) ?_
                  obtain rfl := Option.some.inj hs31
                  exact ih31 _ _ _ _ _ hw31 hP hD hS (lv_sub hl [0, 1, 4, 5, 6] rfl)
                · rw [if_neg c13] at hs31
                  refine lv_iload hx hb dX5_pool_97 (lv_at hl 2 rfl) ?_
                  obtain ⟨o14, ho14, hs31⟩ := ob_el hs31
                  refine kc0_i (D := D) (va_runS (As := [.int x31_l4]) (rest := []) ⟨hx, hb, hml, hown, hts⟩ ((k_X5_ones l D K x31_l4 o14 ho14) H.size) (va_cwS 1 hts gX5_pool_X5_ones rfl rfl rfl yd_X5_ones ⟨Nat.le_of_ble_eq_true rfl, Nat.le_of_ble_eq_true rfl⟩) (kPreS va_P_nil (va_D_nil (A := fun _ => True)) hK hN) rfl rfl hl.1 rfl (lv_room (Nat.le_of_ble_eq_true rfl)) dX5_pool_99 ⟨Nat.le_of_ble_eq_true rfl, Nat.le_of_ble_eq_true rfl⟩) hP hS hA (fun hzo14 H locs hP hS => ?_)
                  refine lv_iload_n hx hb dX5_pool_102 rfl (lv_at hl 3 rfl) ?_
                  obtain ⟨o15, ho15, hs31⟩ := ob_el hs31
                  refine kc0_i (D := D) (va_runS (As := [.int x31_l3]) (rest := [.int o14]) ⟨hx, hb, hml, hown, hts⟩ ((k_X5_ones l D K x31_l3 o15 ho15) H.size) (va_cwS 1 hts gX5_pool_X5_ones rfl rfl rfl yd_X5_ones ⟨Nat.le_of_ble_eq_true rfl, Nat.le_of_ble_eq_true rfl⟩) (kPreS va_P_nil (va_D_nil (A := fun _ => True)) hK hN) rfl rfl hl.1 rfl (lv_room (Nat.le_of_ble_eq_true rfl)) dX5_pool_103 ⟨Nat.le_of_ble_eq_true rfl, Nat.le_of_ble_eq_true rfl⟩) hP hS hA (fun hzo15 H locs hP hS => ?_)
                  refine lv_icmp_ge (tgt := 114) hx hb dX5_pool_106 (by decide) (fun c16 => ?_) (fun c16 => ?_)
                  · rw [if_pos c16] at hs31
                    refine lv_iload_n hx hb dX5_pool_114 rfl (lv_at hl 3 rfl) ?_
                    refine lv_istore_n (lv' := [(3, .int x31_l3), (6, .int e44_l6), (5, .int e44_l5), (4, .int x31_l4), (0, .ref (q 0)), (1, .int p0), (2, .int p1)]) hx hb dX5_pool_115 rfl hl (by decide) rfl (fun ls hl => ?_)
                    refine lv_iinc (v := (x31_l4 + 1)) (lv' := [(4, .int (x31_l4 + 1)), (3, .int x31_l3), (6, .int e44_l6), (5, .int e44_l5), (0, .ref (q 0)), (1, .int p0), (2, .int p1)]) hx hb dX5_pool_116 hl (k := 3) rfl (by rfl) (by decide) rfl (fun ls hl => ?_)
                    refine lv_goto (tgt := 31) hx hb dX5_pool_119 (by decide) ?_
                    obtain rfl := Option.some.inj hs31
                    exact ih31 _ _ _ _ _ hw31 hP hD hS (lv_sub hl [0, 1, 4, 5, 6] rfl)
                  · rw [if_neg c16] at hs31
                    refine lv_iload hx hb dX5_pool_109 (lv_at hl 2 rfl) ?_
                    refine lv_goto (tgt := 115) hx hb dX5_pool_111 (by decide) ?_
                    refine lv_istore_n (lv' := [(3, .int x31_l4), (6, .int e44_l6), (5, .int e44_l5), (4, .int x31_l4), (0, .ref (q 0)), (1, .int p0), (2, .int p1)]) hx hb dX5_pool_115 rfl hl (by decide) rfl (fun ls hl => ?_)
                    refine lv_iinc (v := (x31_l4 + 1)) (lv' := [(4, .int (x31_l4 + 1)), (3, .int x31_l4), (6, .int e44_l6), (5, .int e44_l5), (0, .ref (q 0)), (1, .int p0), (2, .int p1)]) hx hb dX5_pool_116 hl (k := 3) rfl (by rfl) (by decide) rfl (fun ls hl => ?_)
                    refine lv_goto (tgt := 31) hx hb dX5_pool_119 (by decide) ?_
                    obtain rfl := Option.some.inj hs31
                    exact ih31 _ _ _ _ _ hw31 hP hD hS (lv_sub hl [0, 1, 4, 5, 6] rfl)
            have lp44 : ∀ (fu : Nat) (x44_l5 : Int32) (x44_l6 : Int32) (H : Heap) (locs : List Loc) (ls : Array Slot), wh (s_X5_pool_44 vhas x31_l4) fu (x44_l5, x44_l6) = some r10 → va_P D vwCl (mdW K q vweight vkind vrhymes vpurse vhas vwishes vwishMany vsightLeft vsightRight vsightHow vsights vpad vpadMany vact vwho vwhich vwhom vacts vplace vopenMany vended vspoken vheaviest vheaviestWeight vhad vbadAct vbadWhy vbrings vbringsThen vkept visKept vkeptAt visWriting) H → va_D A (mdW K q vweight vkind vrhymes vpurse vhas vwishes vwishMany vsightLeft vsightRight vsightHow vsights vpad vpadMany vact vwho vwhich vwhom vacts vplace vopenMany vended vspoken vheaviest vheaviestWeight vhad vbadAct vbadWhy vbrings vbringsThen vkept visKept vkeptAt visWriting) → va_S A H0 H locs → lv_has ls 7 [(6, .int x44_l6), (5, .int x44_l5), (4, .int x31_l4), (3, .int x31_l3), (0, .ref (q 0)), (1, .int p0), (2, .int p1)] → W p l e rmX5_pool s m args below meth c H locs 0 0 Q (F0 m 44 ls []) := by
              intro fu
              induction fu with
              | zero => intro x44_l5 x44_l6 H locs ls hw44; cases hw44
              | succ fu ih44 =>
                intro x44_l5 x44_l6 H locs ls hw44 hP hD hS hl
                obtain ⟨o44_, hs44, hw44⟩ := wh_el hw44
                unfold s_X5_pool_44 at hs44
                dsimp only at hs44
                refine lv_iload hx hb dX5_pool_44 (lv_at hl 0 rfl) ?_
                refine lv_iconst (v := 4) hx hb dX5_pool_46 (by decide) ?_
                refine lv_icmp_ge (tgt := 83) hx hb dX5_pool_47 (by decide) (fun c17 => ?_) (fun c17 => ?_)
                · rw [if_pos c17] at hs44
                  obtain rfl := Option.some.inj hs44
                  have e9 := Option.some.inj hw44
                  rw [← e9] at hs31
                  exact post44 _ _ _ _ _ hs31 hP hD hS (lv_sub hl [0, 1, 2, 3, 4, 5, 6] rfl)
                · rw [if_neg c17] at hs44
                  refine lv_iload hx hb dX5_pool_50 (lv_at hl 1 rfl) ?_
                  refine lv_iload hx hb dX5_pool_52 (lv_at hl 2 rfl) ?_
                  refine lv_iload hx hb dX5_pool_54 (lv_at hl 0 rfl) ?_
                  refine lv_ishr hx hb dX5_pool_56 ?_
                  refine lv_iconst (v := 1) hx hb dX5_pool_57 (by decide) ?_
                  refine lv_iand hx hb dX5_pool_58 ?_
                  refine lv_iconst (v := 1) hx hb dX5_pool_59 (by decide) ?_
                  refine lv_icmp_ne (tgt := 73) hx hb dX5_pool_60 (by decide) (fun c18 => ?_) (fun c18 => ?_)
                  · rw [if_neg c18] at hs44
                    refine lv_iconst (v := 0) hx hb dX5_pool_73 (by decide) ?_
                    refine lv_ior hx hb dX5_pool_74 ?_
                    refine lv_istore (lv' := [(5, .int (x44_l5 ||| 0)), (6, .int x44_l6), (4, .int x31_l4), (3, .int x31_l3), (0, .ref (q 0)), (1, .int p0), (2, .int p1)]) hx hb dX5_pool_75 hl (by decide) rfl (fun ls hl => ?_)
                    refine lv_iinc (v := (x44_l6 + 1)) (lv' := [(6, .int (x44_l6 + 1)), (5, .int (x44_l5 ||| 0)), (4, .int x31_l4), (3, .int x31_l3), (0, .ref (q 0)), (1, .int p0), (2, .int p1)]) hx hb dX5_pool_77 hl (k := 1) rfl (by rfl) (by decide) rfl (fun ls hl => ?_)
                    refine lv_goto (tgt := 44) hx hb dX5_pool_80 (by decide) ?_
                    obtain rfl := Option.some.inj hs44
                    exact ih44 _ _ _ _ _ hw44 hP hD hS (lv_sub hl [0, 1, 2, 3, 4, 5, 6] rfl)
                  · rw [if_pos c18] at hs44
                    refine lv_aload_n hx hb dX5_pool_63 rfl (lv_at hl 4 rfl) ?_
                    refine va_get (D := D) (ci := 5) (v := .ref (q 5)) (C := RX5) (T := TX5) (N := 33) hx hb hts inX5_pool_X5 hown hK hP 0 rfl rfl 4 (by decide) (hts (.fieldLink RX5 22 "WordScalesModel" "has" "[I") (List.mem_of_getElem? (i := 2) rfl)) (fun _ h9 => h9) rfl dX5_pool_64 ?_
                    refine lv_iload hx hb dX5_pool_67 (lv_at hl 0 rfl) ?_
                    obtain ⟨v19, hs44⟩ := chk_el hs44
                    refine va_iald (D := D) (f := vhas) hx hb hK hP 5 0 rfl rfl v19 dX5_pool_69 ?_
                    refine lv_goto (tgt := 74) hx hb dX5_pool_70 (by decide) ?_
                    refine lv_ior hx hb dX5_pool_74 ?_
                    refine lv_istore (lv' := [(5, .int (x44_l5 ||| (vhas (x44_l6).toNatClampNeg))), (6, .int x44_l6), (4, .int x31_l4), (3, .int x31_l3), (0, .ref (q 0)), (1, .int p0), (2, .int p1)]) hx hb dX5_pool_75 hl (by decide) rfl (fun ls hl => ?_)
                    refine lv_iinc (v := (x44_l6 + 1)) (lv' := [(6, .int (x44_l6 + 1)), (5, .int (x44_l5 ||| (vhas (x44_l6).toNatClampNeg))), (4, .int x31_l4), (3, .int x31_l3), (0, .ref (q 0)), (1, .int p0), (2, .int p1)]) hx hb dX5_pool_77 hl (k := 1) rfl (by rfl) (by decide) rfl (fun ls hl => ?_)
                    refine lv_goto (tgt := 44) hx hb dX5_pool_80 (by decide) ?_
                    obtain rfl := Option.some.inj hs44
                    exact ih44 _ _ _ _ _ hw44 hP hD hS (lv_sub hl [0, 1, 2, 3, 4, 5, 6] rfl)
            exact lp44 5000 _ _ _ _ _ hr10 hP hD hS (lv_sub hl [0, 1, 2, 3, 4, 5, 6] rfl)
      exact lp31 5000 _ _ _ _ _ hr5 hP hD hS (lv_sub hl [0, 1, 2, 3, 4] rfl)
    · rw [if_pos c4] at hf
      refine lv_bipush (v := (-2)) hx hb dX5_pool_22 (by decide) ?_
      obtain rfl := Option.some.inj hf
      exact hret rfl rfl rfl hP hD hS dX5_pool_24
def f_X5_wish (vwishes : Nat → Int32) (vwishMany : Int32) (p0 : Int32) : Option (Int32 × (Nat → Int32) × Int32) := bd (f_X5_in p0.toInt64 (0) (4095)) (fun o1 => if o1 = 0 then (some ((-2), vwishes, vwishMany)) else (if vwishMany = 8 then (some ((-4), vwishes, vwishMany)) else (chk vwishMany 8 (some ((vwishMany + 1), (upd vwishes (vwishMany).toNatClampNeg p0), (vwishMany + 1))))))
theorem inX5_wish_X5 : ∀ w ∈ wsX50, w ∈ wsX5_wish := fun w h => List.mem_cons_of_mem _ (List.mem_append_right _ h)
theorem yd_X5_wish : yX5_wish.cls ≠ "java/lang/invoke/MethodHandle" ∧ yX5_wish.cls ≠ "java/lang/invoke/VarHandle" ∧ (parseMethodDescriptor yX5_wish.desc).map (fun d => d.parameters.length) = some 1 := by decide +kernel
abbrev rmX5_wish : Room := { frames := 1, cells := 0, slots := 0, locals := 25 }
set_option maxHeartbeats 4000000 in
set_option maxRecDepth 100000 in
theorem k_X5_wish (l : Launch) (D : va_G) (K : Nat → ClassId) (q : Nat → Nat) (vweight : Nat → Int32) (vkind : Nat → Int32) (vrhymes : Nat → Int32) (vpurse : Nat → Int32) (vhas : Nat → Int32) (vwishes : Nat → Int32) (vwishMany : Int32) (vsightLeft : Nat → Int32) (vsightRight : Nat → Int32) (vsightHow : Nat → Int32) (vsights : Int32) (vpad : Nat → Int32) (vpadMany : Int32) (vact : Nat → Int32) (vwho : Nat → Int32) (vwhich : Nat → Int32) (vwhom : Nat → Int32) (vacts : Int32) (vplace : Int32) (vopenMany : Int32) (vended : Int32) (vspoken : Int32) (vheaviest : Int32) (vheaviestWeight : Int32) (vhad : Nat → Int32) (vbadAct : Int32) (vbadWhy : Int32) (vbrings : Nat → Int64) (vbringsThen : Nat → Int64) (vkept : Nat → Int32) (visKept : Nat → Int32) (vkeptAt : Int32) (visWriting : Int32) (p0 : Int32) (out : Int32 × (Nat → Int32) × Int32) (hf : f_X5_wish vwishes vwishMany p0 = some out) : kI l D K .int yX5_wish wsX5_wish rmX5_wish [.ref (q 0), .int p0] (mdW K q vweight vkind vrhymes vpurse vhas vwishes vwishMany vsightLeft vsightRight vsightHow vsights vpad vpadMany vact vwho vwhich vwhom vacts vplace vopenMany vended vspoken vheaviest vheaviestWeight vhad vbadAct vbadWhy vbrings vbringsThen vkept visKept vkeptAt visWriting) out.1 (mdW K q vweight vkind vrhymes vpurse vhas out.2.1 out.2.2 vsightLeft vsightRight vsightHow vsights vpad vpadMany vact vwho vwhich vwhom vacts vplace vopenMany vended vspoken vheaviest vheaviestWeight vhad vbadAct vbadWhy vbrings vbringsThen vkept visKept vkeptAt visWriting) := by
  refine kI.of (cc := cX5_wish) (maxL := 2) (by decide) rfl (Nat.le_of_ble_eq_true rfl) ?_
  intro p e s m args below meth c A H0 Q ls hx hb hml hown hts hK hN hA hP hD hS hl hret
  have hown : s.vm.findClass RX5 = some m.cls := hown
  have hl : lv_has ls 2 [(0, .ref (q 0)), (1, .int p0)] := hl
  generalize hH : H0 = H at hP ⊢
  have hS : va_S A H0 H [] := by rw [← hH]; exact hS
  clear hH
  unfold f_X5_wish at hf
  refine lv_iload_n hx hb dX5_wish_0 rfl (lv_at hl 1 rfl) ?_
  refine lv_i2l (v := p0.toInt64) hx hb dX5_wish_1 rfl ?_
  refine lv_lconst (v := 0) hx hb dX5_wish_2 (by decide) ?_
  refine lv_ldc2 hx hb hown (hts (.constantLong RX5 100 (4095)) (List.mem_of_getElem? (i := 1) rfl)) dX5_wish_3 ?_
  obtain ⟨o1, ho1, hf⟩ := bd_el hf
  refine kc0_i (D := D) (va_runS (As := [.long p0.toInt64, .long 0, .long 4095]) (rest := []) ⟨hx, hb, hml, hown, hts⟩ ((k_X5_in l D K p0.toInt64 (0) (4095) o1 ho1) H.size) (va_cwS 3 hts gX5_wish_X5_in rfl rfl rfl yd_X5_in ⟨Nat.le_of_ble_eq_true rfl, Nat.le_of_ble_eq_true rfl⟩) (kPreS va_P_nil (va_D_nil (A := fun _ => True)) hK hN) rfl rfl hl.1 rfl (lv_room (Nat.le_of_ble_eq_true rfl)) dX5_wish_6 ⟨Nat.le_of_ble_eq_true rfl, Nat.le_of_ble_eq_true rfl⟩) hP hS hA (fun hzo1 H locs hP hS => ?_)
  refine lv_if_ne (tgt := 15) hx hb dX5_wish_9 (by decide) (fun c2 => ?_) (fun c2 => ?_)
  · rw [if_neg c2] at hf
    refine lv_aload_n hx hb dX5_wish_15 rfl (lv_at hl 0 rfl) ?_
    refine va_get (D := D) (ci := 5) (v := .int vwishMany) (C := RX5) (T := TX5) (N := 33) hx hb hts inX5_wish_X5 hown hK hP 0 rfl rfl 6 (by decide) (hts (.fieldLink RX5 218 "WordScalesModel" "wishMany" "I") (List.mem_of_getElem? (i := 2) rfl)) (fun _ h9 => h9) rfl dX5_wish_16 ?_
    refine lv_bipush (v := 8) hx hb dX5_wish_19 (by decide) ?_
    refine lv_icmp_ne (tgt := 27) hx hb dX5_wish_21 (by decide) (fun c3 => ?_) (fun c3 => ?_)
    · rw [if_neg c3] at hf
      refine lv_aload_n hx hb dX5_wish_27 rfl (lv_at hl 0 rfl) ?_
      refine va_get (D := D) (ci := 5) (v := .ref (q 6)) (C := RX5) (T := TX5) (N := 33) hx hb hts inX5_wish_X5 hown hK hP 0 rfl rfl 5 (by decide) (hts (.fieldLink RX5 25 "WordScalesModel" "wishes" "[I") (List.mem_of_getElem? (i := 3) rfl)) (fun _ h9 => h9) rfl dX5_wish_28 ?_
      refine lv_aload_n hx hb dX5_wish_31 rfl (lv_at hl 0 rfl) ?_
      refine va_get (D := D) (ci := 5) (v := .int vwishMany) (C := RX5) (T := TX5) (N := 33) hx hb hts inX5_wish_X5 hown hK hP 0 rfl rfl 6 (by decide) (hts (.fieldLink RX5 218 "WordScalesModel" "wishMany" "I") (List.mem_of_getElem? (i := 2) rfl)) (fun _ h9 => h9) rfl dX5_wish_32 ?_
      refine lv_iload_n hx hb dX5_wish_35 rfl (lv_at hl 1 rfl) ?_
      obtain ⟨v4, hf⟩ := chk_el hf
      refine va_iast (D := D) (f := vwishes) hx hb hK hP hD hS 6 0 rfl rfl v4 dX5_wish_36 (fun H locs hP hD hS => ?_)
      have hP : va_P D vwCl (mdW K q vweight vkind vrhymes vpurse vhas (upd vwishes (vwishMany).toNatClampNeg p0) vwishMany vsightLeft vsightRight vsightHow vsights vpad vpadMany vact vwho vwhich vwhom vacts vplace vopenMany vended vspoken vheaviest vheaviestWeight vhad vbadAct vbadWhy vbrings vbringsThen vkept visKept vkeptAt visWriting) H := hP
      have hD : va_D A (mdW K q vweight vkind vrhymes vpurse vhas (upd vwishes (vwishMany).toNatClampNeg p0) vwishMany vsightLeft vsightRight vsightHow vsights vpad vpadMany vact vwho vwhich vwhom vacts vplace vopenMany vended vspoken vheaviest vheaviestWeight vhad vbadAct vbadWhy vbrings vbringsThen vkept visKept vkeptAt visWriting) := hD
      refine lv_aload_n hx hb dX5_wish_37 rfl (lv_at hl 0 rfl) ?_
      refine lv_dup hx hb dX5_wish_38 rfl ?_
      refine va_get (D := D) (ci := 5) (v := .int vwishMany) (C := RX5) (T := TX5) (N := 33) hx hb hts inX5_wish_X5 hown hK hP 0 rfl rfl 6 (by decide) (hts (.fieldLink RX5 218 "WordScalesModel" "wishMany" "I") (List.mem_of_getElem? (i := 2) rfl)) (fun _ h9 => h9) rfl dX5_wish_39 ?_
      refine lv_iconst (v := 1) hx hb dX5_wish_42 (by decide) ?_
      refine lv_iadd hx hb dX5_wish_43 ?_
      refine va_put (D := D) (ci := 5) (v := .int (vwishMany + 1)) (ty := .int) (C := RX5) (T := TX5) (N := 33) hx hb hts inX5_wish_X5 tyX5 tyX5_ok nmX5 hown hK hP hD hS 0 rfl rfl 6 (by decide) (hts (.fieldLink RX5 218 "WordScalesModel" "wishMany" "I") (List.mem_of_getElem? (i := 2) rfl)) (fun _ h9 => h9) rfl (tyX5_ok 6 (by decide)) rfl rfl (Nat.le_of_ble_eq_true rfl) dX5_wish_44 (fun H locs hP hD hS => ?_)
      have hP : va_P D vwCl (mdW K q vweight vkind vrhymes vpurse vhas (upd vwishes (vwishMany).toNatClampNeg p0) (vwishMany + 1) vsightLeft vsightRight vsightHow vsights vpad vpadMany vact vwho vwhich vwhom vacts vplace vopenMany vended vspoken vheaviest vheaviestWeight vhad vbadAct vbadWhy vbrings vbringsThen vkept visKept vkeptAt visWriting) H := hP
      have hD : va_D A (mdW K q vweight vkind vrhymes vpurse vhas (upd vwishes (vwishMany).toNatClampNeg p0) (vwishMany + 1) vsightLeft vsightRight vsightHow vsights vpad vpadMany vact vwho vwhich vwhom vacts vplace vopenMany vended vspoken vheaviest vheaviestWeight vhad vbadAct vbadWhy vbrings vbringsThen vkept visKept vkeptAt visWriting) := hD
      refine lv_aload_n hx hb dX5_wish_47 rfl (lv_at hl 0 rfl) ?_
      refine va_get (D := D) (ci := 5) (v := .int (vwishMany + 1)) (C := RX5) (T := TX5) (N := 33) hx hb hts inX5_wish_X5 hown hK hP 0 rfl rfl 6 (by decide) (hts (.fieldLink RX5 218 "WordScalesModel" "wishMany" "I") (List.mem_of_getElem? (i := 2) rfl)) (fun _ h9 => h9) rfl dX5_wish_48 ?_
      obtain rfl := Option.some.inj hf
      exact hret rfl rfl rfl hP hD hS dX5_wish_51
    · rw [if_pos c3] at hf
      refine lv_bipush (v := (-4)) hx hb dX5_wish_24 (by decide) ?_
      obtain rfl := Option.some.inj hf
      exact hret rfl rfl rfl hP hD hS dX5_wish_26
  · rw [if_pos c2] at hf
    refine lv_bipush (v := (-2)) hx hb dX5_wish_12 (by decide) ?_
    obtain rfl := Option.some.inj hf
    exact hret rfl rfl rfl hP hD hS dX5_wish_14
def f_X5_unwish (vwishMany : Int32) : Int32 × Int32 := (vwishMany, 0)
theorem inX5_unwish_X5 : ∀ w ∈ wsX50, w ∈ wsX5_unwish := fun w h => List.mem_cons_of_mem _ (List.mem_append_right _ h)
theorem yd_X5_unwish : yX5_unwish.cls ≠ "java/lang/invoke/MethodHandle" ∧ yX5_unwish.cls ≠ "java/lang/invoke/VarHandle" ∧ (parseMethodDescriptor yX5_unwish.desc).map (fun d => d.parameters.length) = some 0 := by decide +kernel
abbrev rmX5_unwish : Room := { frames := 0, cells := 0, slots := 0, locals := 0 }
set_option maxHeartbeats 4000000 in
set_option maxRecDepth 100000 in
theorem k_X5_unwish (l : Launch) (D : va_G) (K : Nat → ClassId) (q : Nat → Nat) (vweight : Nat → Int32) (vkind : Nat → Int32) (vrhymes : Nat → Int32) (vpurse : Nat → Int32) (vhas : Nat → Int32) (vwishes : Nat → Int32) (vwishMany : Int32) (vsightLeft : Nat → Int32) (vsightRight : Nat → Int32) (vsightHow : Nat → Int32) (vsights : Int32) (vpad : Nat → Int32) (vpadMany : Int32) (vact : Nat → Int32) (vwho : Nat → Int32) (vwhich : Nat → Int32) (vwhom : Nat → Int32) (vacts : Int32) (vplace : Int32) (vopenMany : Int32) (vended : Int32) (vspoken : Int32) (vheaviest : Int32) (vheaviestWeight : Int32) (vhad : Nat → Int32) (vbadAct : Int32) (vbadWhy : Int32) (vbrings : Nat → Int64) (vbringsThen : Nat → Int64) (vkept : Nat → Int32) (visKept : Nat → Int32) (vkeptAt : Int32) (visWriting : Int32) (out : Int32 × Int32) (hf : f_X5_unwish vwishMany = out) : kI l D K .int yX5_unwish wsX5_unwish rmX5_unwish [.ref (q 0)] (mdW K q vweight vkind vrhymes vpurse vhas vwishes vwishMany vsightLeft vsightRight vsightHow vsights vpad vpadMany vact vwho vwhich vwhom vacts vplace vopenMany vended vspoken vheaviest vheaviestWeight vhad vbadAct vbadWhy vbrings vbringsThen vkept visKept vkeptAt visWriting) out.1 (mdW K q vweight vkind vrhymes vpurse vhas vwishes out.2 vsightLeft vsightRight vsightHow vsights vpad vpadMany vact vwho vwhich vwhom vacts vplace vopenMany vended vspoken vheaviest vheaviestWeight vhad vbadAct vbadWhy vbrings vbringsThen vkept visKept vkeptAt visWriting) := by
  refine kI.of (cc := cX5_unwish) (maxL := 2) (by decide) rfl (Nat.le_of_ble_eq_true rfl) ?_
  intro p e s m args below meth c A H0 Q ls hx hb hml hown hts hK hN hA hP hD hS hl hret
  have hown : s.vm.findClass RX5 = some m.cls := hown
  have hl : lv_has ls 2 [(0, .ref (q 0))] := hl
  generalize hH : H0 = H at hP ⊢
  have hS : va_S A H0 H [] := by rw [← hH]; exact hS
  clear hH
  unfold f_X5_unwish at hf
  refine lv_aload_n hx hb dX5_unwish_0 rfl (lv_at hl 0 rfl) ?_
  refine va_get (D := D) (ci := 5) (v := .int vwishMany) (C := RX5) (T := TX5) (N := 33) hx hb hts inX5_unwish_X5 hown hK hP 0 rfl rfl 6 (by decide) (hts (.fieldLink RX5 218 "WordScalesModel" "wishMany" "I") (List.mem_of_getElem? (i := 1) rfl)) (fun _ h9 => h9) rfl dX5_unwish_1 ?_
  refine lv_istore_n (lv' := [(1, .int vwishMany), (0, .ref (q 0))]) hx hb dX5_unwish_4 rfl hl (by decide) rfl (fun ls hl => ?_)
  refine lv_aload_n hx hb dX5_unwish_5 rfl (lv_at hl 1 rfl) ?_
  refine lv_iconst (v := 0) hx hb dX5_unwish_6 (by decide) ?_
  refine va_put (D := D) (ci := 5) (v := .int 0) (ty := .int) (C := RX5) (T := TX5) (N := 33) hx hb hts inX5_unwish_X5 tyX5 tyX5_ok nmX5 hown hK hP hD hS 0 rfl rfl 6 (by decide) (hts (.fieldLink RX5 218 "WordScalesModel" "wishMany" "I") (List.mem_of_getElem? (i := 1) rfl)) (fun _ h9 => h9) rfl (tyX5_ok 6 (by decide)) rfl rfl (Nat.le_of_ble_eq_true rfl) dX5_unwish_7 (fun H locs hP hD hS => ?_)
  have hP : va_P D vwCl (mdW K q vweight vkind vrhymes vpurse vhas vwishes 0 vsightLeft vsightRight vsightHow vsights vpad vpadMany vact vwho vwhich vwhom vacts vplace vopenMany vended vspoken vheaviest vheaviestWeight vhad vbadAct vbadWhy vbrings vbringsThen vkept visKept vkeptAt visWriting) H := hP
  have hD : va_D A (mdW K q vweight vkind vrhymes vpurse vhas vwishes 0 vsightLeft vsightRight vsightHow vsights vpad vpadMany vact vwho vwhich vwhom vacts vplace vopenMany vended vspoken vheaviest vheaviestWeight vhad vbadAct vbadWhy vbrings vbringsThen vkept visKept vkeptAt visWriting) := hD
  refine lv_iload_n hx hb dX5_unwish_10 rfl (lv_at hl 0 rfl) ?_
  subst hf
  exact hret rfl rfl rfl hP hD hS dX5_unwish_11
