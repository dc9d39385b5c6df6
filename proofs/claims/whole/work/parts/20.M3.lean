def f_X5_says (vkind : Nat → Int32) (vhas : Nat → Int32) (p0 : Int32) (p1 : Int32) : Option (Int64) := bd (f_X5_isSpeaker p0) (fun o1 => if o1 = 0 then (some (-1)) else (bd (f_X5_in p1.toInt64 (1) (8)) (fun o3 => if o3 = 0 then (some (-2)) else (chk p0 4 (ob (f_X5_manyOf vkind (vhas (p0).toNatClampNeg) (0)) (fun o6 => ob (f_X5_manyOf vkind (vhas (p0).toNatClampNeg) (1)) (fun o7 => ob (f_X5_manyOf vkind (vhas (p0).toNatClampNeg) (2)) (fun o8 => if 2 ≤ p1 then (ob (f_X5_times o8.toInt64 (p1 - 2)) (fun o10 => if 3 ≤ p1 then (ob (f_X5_times o8.toInt64 (p1 - 3)) (fun o12 => some (((o10 * o6.toInt64) * o7.toInt64) + (((((p1 - 2).toInt64 * o12) * o6.toInt64) * o7.toInt64) * o6.toInt64)))) else (some (((o10 * o6.toInt64) * o7.toInt64) + 0)))) else (if 3 ≤ p1 then (ob (f_X5_times o8.toInt64 (p1 - 3)) (fun o14 => some (0 + (((((p1 - 2).toInt64 * o14) * o6.toInt64) * o7.toInt64) * o6.toInt64)))) else (some (0 + 0)))))))))))
theorem inX5_says_X5 : ∀ w ∈ wsX50, w ∈ wsX5_says := fun w h => List.mem_cons_of_mem _ (List.mem_append_right _ h)
theorem yd_X5_says : yX5_says.cls ≠ "java/lang/invoke/MethodHandle" ∧ yX5_says.cls ≠ "java/lang/invoke/VarHandle" ∧ (parseMethodDescriptor yX5_says.desc).map (fun d => d.parameters.length) = some 2 := by decide +kernel
abbrev rmX5_says : Room := { frames := 2, cells := 0, slots := 0, locals := 45 }
set_option maxHeartbeats 4000000 in
set_option maxRecDepth 100000 in
theorem k_X5_says (l : Launch) (D : va_G) (K : Nat → ClassId) (q : Nat → Nat) (vweight : Nat → Int32) (vkind : Nat → Int32) (vrhymes : Nat → Int32) (vpurse : Nat → Int32) (vhas : Nat → Int32) (vwishes : Nat → Int32) (vwishMany : Int32) (vsightLeft : Nat → Int32) (vsightRight : Nat → Int32) (vsightHow : Nat → Int32) (vsights : Int32) (vpad : Nat → Int32) (vpadMany : Int32) (vact : Nat → Int32) (vwho : Nat → Int32) (vwhich : Nat → Int32) (vwhom : Nat → Int32) (vacts : Int32) (vplace : Int32) (vopenMany : Int32) (vended : Int32) (vspoken : Int32) (vheaviest : Int32) (vheaviestWeight : Int32) (vhad : Nat → Int32) (vbadAct : Int32) (vbadWhy : Int32) (vbrings : Nat → Int64) (vbringsThen : Nat → Int64) (vkept : Nat → Int32) (visKept : Nat → Int32) (vkeptAt : Int32) (visWriting : Int32) (p0 : Int32) (p1 : Int32) (out : Int64) (hf : f_X5_says vkind vhas p0 p1 = some out) : kL l D K yX5_says wsX5_says rmX5_says [.ref (q 0), .int p0, .int p1] (mdW K q vweight vkind vrhymes vpurse vhas vwishes vwishMany vsightLeft vsightRight vsightHow vsights vpad vpadMany vact vwho vwhich vwhom vacts vplace vopenMany vended vspoken vheaviest vheaviestWeight vhad vbadAct vbadWhy vbrings vbringsThen vkept visKept vkeptAt visWriting) out (mdW K q vweight vkind vrhymes vpurse vhas vwishes vwishMany vsightLeft vsightRight vsightHow vsights vpad vpadMany vact vwho vwhich vwhom vacts vplace vopenMany vended vspoken vheaviest vheaviestWeight vhad vbadAct vbadWhy vbrings vbringsThen vkept visKept vkeptAt visWriting) := by
  refine kL.of (cc := cX5_says) (maxL := 13) (by decide) rfl (Nat.le_of_ble_eq_true rfl) ?_
  intro p e s m args below meth c A H0 Q ls hx hb hml hown hts hK hN hA hP hD hS hl hret
  have hown : s.vm.findClass RX5 = some m.cls := hown
  have hl : lv_has ls 13 [(0, .ref (q 0)), (1, .int p0), (2, .int p1)] := hl
  generalize hH : H0 = H at hP ⊢
  have hS : va_S A H0 H [] := by rw [← hH]; exact hS
  clear hH
  unfold f_X5_says at hf
  refine lv_iload_n hx hb dX5_says_0 rfl (lv_at hl 1 rfl) ?_
  obtain ⟨o1, ho1, hf⟩ := bd_el hf
  refine kc0_i (D := D) (va_runS (As := [.int p0]) (rest := []) ⟨hx, hb, hml, hown, hts⟩ ((k_X5_isSpeaker l D K p0 o1 ho1) H.size) (va_cwS 1 hts gX5_says_X5_isSpeaker rfl rfl rfl yd_X5_isSpeaker ⟨Nat.le_of_ble_eq_true rfl, Nat.le_of_ble_eq_true rfl⟩) (kPreS va_P_nil (va_D_nil (A := fun _ => True)) hK hN) rfl rfl hl.1 rfl (lv_room (Nat.le_of_ble_eq_true rfl)) dX5_says_1 ⟨Nat.le_of_ble_eq_true rfl, Nat.le_of_ble_eq_true rfl⟩) hP hS hA (fun hzo1 H locs hP hS => ?_)
  refine lv_if_ne (tgt := 11) hx hb dX5_says_4 (by decide) (fun c2 => ?_) (fun c2 => ?_)
  · rw [if_neg c2] at hf
    refine lv_iload_n hx hb dX5_says_11 rfl (lv_at hl 2 rfl) ?_
    refine lv_i2l (v := p1.toInt64) hx hb dX5_says_12 rfl ?_
    refine lv_lconst (v := 1) hx hb dX5_says_13 (by decide) ?_
    refine lv_ldc2 hx hb hown (hts (.constantLong RX5 198 (8)) (List.mem_of_getElem? (i := 2) rfl)) dX5_says_14 ?_
    obtain ⟨o3, ho3, hf⟩ := bd_el hf
    refine kc0_i (D := D) (va_runS (As := [.long p1.toInt64, .long 1, .long 8]) (rest := []) ⟨hx, hb, hml, hown, hts⟩ ((k_X5_in l D K p1.toInt64 (1) (8) o3 ho3) H.size) (va_cwS 3 hts gX5_says_X5_in rfl rfl rfl yd_X5_in ⟨Nat.le_of_ble_eq_true rfl, Nat.le_of_ble_eq_true rfl⟩) (kPreS va_P_nil (va_D_nil (A := fun _ => True)) hK hN) rfl rfl hl.1 rfl (lv_room (Nat.le_of_ble_eq_true rfl)) dX5_says_17 ⟨Nat.le_of_ble_eq_true rfl, Nat.le_of_ble_eq_true rfl⟩) hP hS hA (fun hzo3 H locs hP hS => ?_)
    refine lv_if_ne (tgt := 27) hx hb dX5_says_20 (by decide) (fun c4 => ?_) (fun c4 => ?_)
    · rw [if_neg c4] at hf
      refine lv_aload_n hx hb dX5_says_27 rfl (lv_at hl 0 rfl) ?_
      refine lv_aload_n hx hb dX5_says_28 rfl (lv_at hl 0 rfl) ?_
      refine va_get (D := D) (ci := 5) (v := .ref (q 5)) (C := RX5) (T := TX5) (N := 33) hx hb hts inX5_says_X5 hown hK hP 0 rfl rfl 4 (by decide) (hts (.fieldLink RX5 22 "WordScalesModel" "has" "[I") (List.mem_of_getElem? (i := 4) rfl)) (fun _ h9 => h9) rfl dX5_says_29 ?_
      refine lv_iload_n hx hb dX5_says_32 rfl (lv_at hl 1 rfl) ?_
      obtain ⟨v5, hf⟩ := chk_el hf
      refine va_iald (D := D) (f := vhas) hx hb hK hP 5 0 rfl rfl v5 dX5_says_33 ?_
      refine lv_iconst (v := 0) hx hb dX5_says_34 (by decide) ?_
      obtain ⟨o6, ho6, hf⟩ := ob_el hf
      refine kcw_i (D := D) (va_runV (As := [.int (vhas (p0).toNatClampNeg), .int 0]) (rest := []) ⟨hx, hb, hml, hown, hts⟩ ((k_X5_manyOf l D K q vweight vkind vrhymes vpurse vhas vwishes vwishMany vsightLeft vsightRight vsightHow vsights vpad vpadMany vact vwho vwhich vwhom vacts vplace vopenMany vended vspoken vheaviest vheaviestWeight vhad vbadAct vbadWhy vbrings vbringsThen vkept visKept vkeptAt visWriting (vhas (p0).toNatClampNeg) (0) o6 ho6) H.size) (cwV 2 hts gX5_says_X5_manyOf rfl rfl rfl ⟨rfl, yd_X5_manyOf⟩ ⟨Nat.le_of_ble_eq_true rfl, Nat.le_of_ble_eq_true rfl⟩) (kPreV (ci := 5) (q0 := 0) hP rfl rfl hP hD hK hN) rfl rfl hl.1 rfl (lv_room (Nat.le_of_ble_eq_true rfl)) dX5_says_35 ⟨Nat.le_of_ble_eq_true rfl, Nat.le_of_ble_eq_true rfl⟩) hD hS hA (fun hzo6 H locs hP hD hS => ?_)
      have hP : va_P D vwCl (mdW K q vweight vkind vrhymes vpurse vhas vwishes vwishMany vsightLeft vsightRight vsightHow vsights vpad vpadMany vact vwho vwhich vwhom vacts vplace vopenMany vended vspoken vheaviest vheaviestWeight vhad vbadAct vbadWhy vbrings vbringsThen vkept visKept vkeptAt visWriting) H := hP
      have hD : va_D A (mdW K q vweight vkind vrhymes vpurse vhas vwishes vwishMany vsightLeft vsightRight vsightHow vsights vpad vpadMany vact vwho vwhich vwhom vacts vplace vopenMany vended vspoken vheaviest vheaviestWeight vhad vbadAct vbadWhy vbrings vbringsThen vkept visKept vkeptAt visWriting) := hD
      refine lv_i2l (v := o6.toInt64) hx hb dX5_says_38 rfl ?_
      refine lv_lstore_n (lv' := [(3, .long o6.toInt64), (0, .ref (q 0)), (1, .int p0), (2, .int p1)]) hx hb dX5_says_39 rfl hl (by decide) rfl (fun ls hl => ?_)
      refine lv_aload_n hx hb dX5_says_40 rfl (lv_at hl 1 rfl) ?_
      refine lv_aload_n hx hb dX5_says_41 rfl (lv_at hl 1 rfl) ?_
      refine va_get (D := D) (ci := 5) (v := .ref (q 5)) (C := RX5) (T := TX5) (N := 33) hx hb hts inX5_says_X5 hown hK hP 0 rfl rfl 4 (by decide) (hts (.fieldLink RX5 22 "WordScalesModel" "has" "[I") (List.mem_of_getElem? (i := 4) rfl)) (fun _ h9 => h9) rfl dX5_says_42 ?_
      refine lv_iload_n hx hb dX5_says_45 rfl (lv_at hl 2 rfl) ?_
      refine va_iald (D := D) (f := vhas) hx hb hK hP 5 0 rfl rfl v5 dX5_says_46 ?_
      refine lv_iconst (v := 1) hx hb dX5_says_47 (by decide) ?_
      obtain ⟨o7, ho7, hf⟩ := ob_el hf
      refine kcw_i (D := D) (va_runV (As := [.int (vhas (p0).toNatClampNeg), .int 1]) (rest := []) ⟨hx, hb, hml, hown, hts⟩ ((k_X5_manyOf l D K q vweight vkind vrhymes vpurse vhas vwishes vwishMany vsightLeft vsightRight vsightHow vsights vpad vpadMany vact vwho vwhich vwhom vacts vplace vopenMany vended vspoken vheaviest vheaviestWeight vhad vbadAct vbadWhy vbrings vbringsThen vkept visKept vkeptAt visWriting (vhas (p0).toNatClampNeg) (1) o7 ho7) H.size) (cwV 2 hts gX5_says_X5_manyOf rfl rfl rfl ⟨rfl, yd_X5_manyOf⟩ ⟨Nat.le_of_ble_eq_true rfl, Nat.le_of_ble_eq_true rfl⟩) (kPreV (ci := 5) (q0 := 0) hP rfl rfl hP hD hK hN) rfl rfl hl.1 rfl (lv_room (Nat.le_of_ble_eq_true rfl)) dX5_says_48 ⟨Nat.le_of_ble_eq_true rfl, Nat.le_of_ble_eq_true rfl⟩) hD hS hA (fun hzo7 H locs hP hD hS => ?_)
      have hP : va_P D vwCl (mdW K q vweight vkind vrhymes vpurse vhas vwishes vwishMany vsightLeft vsightRight vsightHow vsights vpad vpadMany vact vwho vwhich vwhom vacts vplace vopenMany vended vspoken vheaviest vheaviestWeight vhad vbadAct vbadWhy vbrings vbringsThen vkept visKept vkeptAt visWriting) H := hP
      have hD : va_D A (mdW K q vweight vkind vrhymes vpurse vhas vwishes vwishMany vsightLeft vsightRight vsightHow vsights vpad vpadMany vact vwho vwhich vwhom vacts vplace vopenMany vended vspoken vheaviest vheaviestWeight vhad vbadAct vbadWhy vbrings vbringsThen vkept visKept vkeptAt visWriting) := hD
      refine lv_i2l (v := o7.toInt64) hx hb dX5_says_51 rfl ?_
      refine lv_lstore (lv' := [(5, .long o7.toInt64), (3, .long o6.toInt64), (0, .ref (q 0)), (1, .int p0), (2, .int p1)]) hx hb dX5_says_52 hl (by decide) rfl (fun ls hl => ?_)
      refine lv_aload_n hx hb dX5_says_54 rfl (lv_at hl 2 rfl) ?_
      refine lv_aload_n hx hb dX5_says_55 rfl (lv_at hl 2 rfl) ?_
      refine va_get (D := D) (ci := 5) (v := .ref (q 5)) (C := RX5) (T := TX5) (N := 33) hx hb hts inX5_says_X5 hown hK hP 0 rfl rfl 4 (by decide) (hts (.fieldLink RX5 22 "WordScalesModel" "has" "[I") (List.mem_of_getElem? (i := 4) rfl)) (fun _ h9 => h9) rfl dX5_says_56 ?_
      refine lv_iload_n hx hb dX5_says_59 rfl (lv_at hl 3 rfl) ?_
      refine va_iald (D := D) (f := vhas) hx hb hK hP 5 0 rfl rfl v5 dX5_says_60 ?_
      refine lv_iconst (v := 2) hx hb dX5_says_61 (by decide) ?_
      obtain ⟨o8, ho8, hf⟩ := ob_el hf
      refine kcw_i (D := D) (va_runV (As := [.int (vhas (p0).toNatClampNeg), .int 2]) (rest := []) ⟨hx, hb, hml, hown, hts⟩ ((k_X5_manyOf l D K q vweight vkind vrhymes vpurse vhas vwishes vwishMany vsightLeft vsightRight vsightHow vsights vpad vpadMany vact vwho vwhich vwhom vacts vplace vopenMany vended vspoken vheaviest vheaviestWeight vhad vbadAct vbadWhy vbrings vbringsThen vkept visKept vkeptAt visWriting (vhas (p0).toNatClampNeg) (2) o8 ho8) H.size) (cwV 2 hts gX5_says_X5_manyOf rfl rfl rfl ⟨rfl, yd_X5_manyOf⟩ ⟨Nat.le_of_ble_eq_true rfl, Nat.le_of_ble_eq_true rfl⟩) (kPreV (ci := 5) (q0 := 0) hP rfl rfl hP hD hK hN) rfl rfl hl.1 rfl (lv_room (Nat.le_of_ble_eq_true rfl)) dX5_says_62 ⟨Nat.le_of_ble_eq_true rfl, Nat.le_of_ble_eq_true rfl⟩) hD hS hA (fun hzo8 H locs hP hD hS => ?_)
      have hP : va_P D vwCl (mdW K q vweight vkind vrhymes vpurse vhas vwishes vwishMany vsightLeft vsightRight vsightHow vsights vpad vpadMany vact vwho vwhich vwhom vacts vplace vopenMany vended vspoken vheaviest vheaviestWeight vhad vbadAct vbadWhy vbrings vbringsThen vkept visKept vkeptAt visWriting) H := hP
      have hD : va_D A (mdW K q vweight vkind vrhymes vpurse vhas vwishes vwishMany vsightLeft vsightRight vsightHow vsights vpad vpadMany vact vwho vwhich vwhom vacts vplace vopenMany vended vspoken vheaviest vheaviestWeight vhad vbadAct vbadWhy vbrings vbringsThen vkept visKept vkeptAt visWriting) := hD
      refine lv_i2l (v := o8.toInt64) hx hb dX5_says_65 rfl ?_
      refine lv_lstore (lv' := [(7, .long o8.toInt64), (5, .long o7.toInt64), (3, .long o6.toInt64), (0, .ref (q 0)), (1, .int p0), (2, .int p1)]) hx hb dX5_says_66 hl (by decide) rfl (fun ls hl => ?_)
      refine lv_iload_n hx hb dX5_says_68 rfl (lv_at hl 5 rfl) ?_
      refine lv_iconst (v := 2) hx hb dX5_says_69 (by decide) ?_
      refine lv_icmp_ge (tgt := 77) hx hb dX5_says_70 (by decide) (fun c9 => ?_) (fun c9 => ?_)
      · rw [if_pos c9] at hf
        refine lv_lload hx hb dX5_says_77 (lv_at hl 0 rfl) ?_
        refine lv_iload_n hx hb dX5_says_79 rfl (lv_at hl 5 rfl) ?_
        refine lv_iconst (v := 2) hx hb dX5_says_80 (by decide) ?_
        refine lv_isub hx hb dX5_says_81 ?_
        obtain ⟨o10, ho10, hf⟩ := ob_el hf
        refine kc0_l (D := D) (va_runS (As := [.long o8.toInt64, .int (p1 - 2)]) (rest := []) ⟨hx, hb, hml, hown, hts⟩ ((k_X5_times l D K o8.toInt64 (p1 - 2) o10 ho10) H.size) (va_cwS 2 hts gX5_says_X5_times rfl rfl rfl yd_X5_times ⟨Nat.le_of_ble_eq_true rfl, Nat.le_of_ble_eq_true rfl⟩) (kPreS va_P_nil (va_D_nil (A := fun _ => True)) hK hN) rfl rfl hl.1 rfl (lv_room (Nat.le_of_ble_eq_true rfl)) dX5_says_82 ⟨Nat.le_of_ble_eq_true rfl, Nat.le_of_ble_eq_true rfl⟩) hP hS hA (fun H locs hP hS => ?_)
        refine lv_lload_n hx hb dX5_says_85 rfl (lv_at hl 2 rfl) ?_
        refine lv_lmul hx hb dX5_says_86 ?_
        refine lv_lload hx hb dX5_says_87 (lv_at hl 1 rfl) ?_
        refine lv_lmul hx hb dX5_says_89 ?_
        refine lv_lstore (lv' := [(9, .long ((o10 * o6.toInt64) * o7.toInt64)), (7, .long o8.toInt64), (5, .long o7.toInt64), (3, .long o6.toInt64), (0, .ref (q 0)), (1, .int p0), (2, .int p1)]) hx hb dX5_says_90 hl (by decide) rfl (fun ls hl => ?_)
        refine lv_iload_n hx hb dX5_says_92 rfl (lv_at hl 6 rfl) ?_
        refine lv_iconst (v := 3) hx hb dX5_says_93 (by decide) ?_
        refine lv_icmp_ge (tgt := 101) hx hb dX5_says_94 (by decide) (fun c11 => ?_) (fun c11 => ?_)
        · rw [if_pos c11] at hf
          refine lv_iload_n hx hb dX5_says_101 rfl (lv_at hl 6 rfl) ?_
          refine lv_iconst (v := 2) hx hb dX5_says_102 (by decide) ?_
          refine lv_isub hx hb dX5_says_103 ?_
          refine lv_i2l (v := (p1 - 2).toInt64) hx hb dX5_says_104 rfl ?_
          refine lv_lload hx hb dX5_says_105 (lv_at hl 1 rfl) ?_
          refine lv_iload_n hx hb dX5_says_107 rfl (lv_at hl 6 rfl) ?_
          refine lv_iconst (v := 3) hx hb dX5_says_108 (by decide) ?_
          refine lv_isub hx hb dX5_says_109 ?_
          obtain ⟨o12, ho12, hf⟩ := ob_el hf
          refine kc0_l (D := D) (va_runS (As := [.long o8.toInt64, .int (p1 - 3)]) (rest := [.long ((p1 - 2).toInt64)]) ⟨hx, hb, hml, hown, hts⟩ ((k_X5_times l D K o8.toInt64 (p1 - 3) o12 ho12) H.size) (va_cwS 2 hts gX5_says_X5_times rfl rfl rfl yd_X5_times ⟨Nat.le_of_ble_eq_true rfl, Nat.le_of_ble_eq_true rfl⟩) (kPreS va_P_nil (va_D_nil (A := fun _ => True)) hK hN) rfl rfl hl.1 rfl (lv_room (Nat.le_of_ble_eq_true rfl)) dX5_says_110 ⟨Nat.le_of_ble_eq_true rfl, Nat.le_of_ble_eq_true rfl⟩) hP hS hA (fun H locs hP hS => ?_)
          refine lv_lmul hx hb dX5_says_113 ?_
          refine lv_lload_n hx hb dX5_says_114 rfl (lv_at hl 3 rfl) ?_
          refine lv_lmul hx hb dX5_says_115 ?_
          refine lv_lload hx hb dX5_says_116 (lv_at hl 2 rfl) ?_
          refine lv_lmul hx hb dX5_says_118 ?_
          refine lv_lload_n hx hb dX5_says_119 rfl (lv_at hl 3 rfl) ?_
          refine lv_lmul hx hb dX5_says_120 ?_
          refine lv_lstore (lv' := [(11, .long (((((p1 - 2).toInt64 * o12) * o6.toInt64) * o7.toInt64) * o6.toInt64)), (9, .long ((o10 * o6.toInt64) * o7.toInt64)), (7, .long o8.toInt64), (5, .long o7.toInt64), (3, .long o6.toInt64), (0, .ref (q 0)), (1, .int p0), (2, .int p1)]) hx hb dX5_says_121 hl (by decide) rfl (fun ls hl => ?_)
          refine lv_lload hx hb dX5_says_123 (lv_at hl 1 rfl) ?_
          refine lv_lload hx hb dX5_says_125 (lv_at hl 0 rfl) ?_
          refine lv_ladd hx hb dX5_says_127 ?_
          obtain rfl := Option.some.inj hf
          exact hret rfl rfl hP hD hS dX5_says_128
        · rw [if_neg c11] at hf
          refine lv_lconst (v := 0) hx hb dX5_says_97 (by decide) ?_
          refine lv_goto (tgt := 121) hx hb dX5_says_98 (by decide) ?_
          refine lv_lstore (lv' := [(11, .long 0), (9, .long ((o10 * o6.toInt64) * o7.toInt64)), (7, .long o8.toInt64), (5, .long o7.toInt64), (3, .long o6.toInt64), (0, .ref (q 0)), (1, .int p0), (2, .int p1)]) hx hb dX5_says_121 hl (by decide) rfl (fun ls hl => ?_)
          refine lv_lload hx hb dX5_says_123 (lv_at hl 1 rfl) ?_
          refine lv_lload hx hb dX5_says_125 (lv_at hl 0 rfl) ?_
          refine lv_ladd hx hb dX5_says_127 ?_
          obtain rfl := Option.some.inj hf
          exact hret rfl rfl hP hD hS dX5_says_128
      · rw [if_neg c9] at hf
        refine lv_lconst (v := 0) hx hb dX5_says_73 (by decide) ?_
        refine lv_goto (tgt := 90) hx hb dX5_says_74 (by decide) ?_
        refine lv_lstore (lv' := [(9, .long 0), (7, .long o8.toInt64), (5, .long o7.toInt64), (3, .long o6.toInt64), (0, .ref (q 0)), (1, .int p0), (2, .int p1)]) hx hb dX5_says_90 hl (by decide) rfl (fun ls hl => ?_)
        refine lv_iload_n hx hb dX5_says_92 rfl (lv_at hl 6 rfl) ?_
        refine lv_iconst (v := 3) hx hb dX5_says_93 (by decide) ?_
        refine lv_icmp_ge (tgt := 101) hx hb dX5_says_94 (by decide) (fun c13 => ?_) (fun c13 => ?_)
        · rw [if_pos c13] at hf
          refine lv_iload_n hx hb dX5_says_101 rfl (lv_at hl 6 rfl) ?_
          refine lv_iconst (v := 2) hx hb dX5_says_102 (by decide) ?_
          refine lv_isub hx hb dX5_says_103 ?_
          refine lv_i2l (v := (p1 - 2).toInt64) hx hb dX5_says_104 rfl ?_
          refine lv_lload hx hb dX5_says_105 (lv_at hl 1 rfl) ?_
          refine lv_iload_n hx hb dX5_says_107 rfl (lv_at hl 6 rfl) ?_
          refine lv_iconst (v := 3) hx hb dX5_says_108 (by decide) ?_
          refine lv_isub hx hb dX5_says_109 ?_
          obtain ⟨o14, ho14, hf⟩ := ob_el hf
          refine kc0_l (D := D) (va_runS (As := [.long o8.toInt64, .int (p1 - 3)]) (rest := [.long ((p1 - 2).toInt64)]) ⟨hx, hb, hml, hown, hts⟩ ((k_X5_times l D K o8.toInt64 (p1 - 3) o14 ho14) H.size) (va_cwS 2 hts gX5_says_X5_times rfl rfl rfl yd_X5_times ⟨Nat.le_of_ble_eq_true rfl, Nat.le_of_ble_eq_true rfl⟩) (kPreS va_P_nil (va_D_nil (A := fun _ => True)) hK hN) rfl rfl hl.1 rfl (lv_room (Nat.le_of_ble_eq_true rfl)) dX5_says_110 ⟨Nat.le_of_ble_eq_true rfl, Nat.le_of_ble_eq_true rfl⟩) hP hS hA (fun H locs hP hS => ?_)
          refine lv_lmul hx hb dX5_says_113 ?_
          refine lv_lload_n hx hb dX5_says_114 rfl (lv_at hl 3 rfl) ?_
          refine lv_lmul hx hb dX5_says_115 ?_
          refine lv_lload hx hb dX5_says_116 (lv_at hl 2 rfl) ?_
          refine lv_lmul hx hb dX5_says_118 ?_
          refine lv_lload_n hx hb dX5_says_119 rfl (lv_at hl 3 rfl) ?_
          refine lv_lmul hx hb dX5_says_120 ?_
          refine lv_lstore (lv' := [(11, .long (((((p1 - 2).toInt64 * o14) * o6.toInt64) * o7.toInt64) * o6.toInt64)), (9, .long 0), (7, .long o8.toInt64), (5, .long o7.toInt64), (3, .long o6.toInt64), (0, .ref (q 0)), (1, .int p0), (2, .int p1)]) hx hb dX5_says_121 hl (by decide) rfl (fun ls hl => ?_)
          refine lv_lload hx hb dX5_says_123 (lv_at hl 1 rfl) ?_
          refine lv_lload hx hb dX5_says_125 (lv_at hl 0 rfl) ?_
          refine lv_ladd hx hb dX5_says_127 ?_
          obtain rfl := Option.some.inj hf
          exact hret rfl rfl hP hD hS dX5_says_128
        · rw [if_neg c13] at hf
          refine lv_lconst (v := 0) hx hb dX5_says_97 (by decide) ?_
          refine lv_goto (tgt := 121) hx hb dX5_says_98 (by decide) ?_
          refine lv_lstore (lv' := [(11, .long 0), (9, .long 0), (7, .long o8.toInt64), (5, .long o7.toInt64), (3, .long o6.toInt64), (0, .ref (q 0)), (1, .int p0), (2, .int p1)]) hx hb dX5_says_121 hl (by decide) rfl (fun ls hl => ?_)
          refine lv_lload hx hb dX5_says_123 (lv_at hl 1 rfl) ?_
          refine lv_lload hx hb dX5_says_125 (lv_at hl 0 rfl) ?_
          refine lv_ladd hx hb dX5_says_127 ?_
          obtain rfl := Option.some.inj hf
          exact hret rfl rfl hP hD hS dX5_says_128
    · rw [if_pos c4] at hf
      refine lv_ldc2 hx hb hown (hts (.constantLong RX5 200 (-2)) (List.mem_of_getElem? (i := 3) rfl)) dX5_says_23 ?_
      obtain rfl := Option.some.inj hf
      exact hret rfl rfl hP hD hS dX5_says_26
  · rw [if_pos c2] at hf
    refine lv_ldc2 hx hb hown (hts (.constantLong RX5 196 (-1)) (List.mem_of_getElem? (i := 1) rfl)) dX5_says_7 ?_
    obtain rfl := Option.some.inj hf
    exact hret rfl rfl hP hD hS dX5_says_10
def f_X5_isSentence (vkind : Nat → Int32) (p0 : Int32) (p1 : Int32) : Option (Int32) := ob (f_X5_manyOf vkind p0 (0)) (fun o1 => ob (f_X5_ones p0) (fun o2 => if o2 = p1 then (ob (f_X5_manyOf vkind p0 (1)) (fun o4 => if o4 = 1 then (if o1 = 1 then (some 1) else (if o1 = 2 then (some 1) else (some 0))) else (some 0))) else (some 0)))
theorem yd_X5_isSentence : yX5_isSentence.cls ≠ "java/lang/invoke/MethodHandle" ∧ yX5_isSentence.cls ≠ "java/lang/invoke/VarHandle" ∧ (parseMethodDescriptor yX5_isSentence.desc).map (fun d => d.parameters.length) = some 2 := by decide +kernel
abbrev rmX5_isSentence : Room := { frames := 1, cells := 0, slots := 0, locals := 24 }
set_option maxHeartbeats 4000000 in
set_option maxRecDepth 100000 in
theorem k_X5_isSentence (l : Launch) (D : va_G) (K : Nat → ClassId) (q : Nat → Nat) (vweight : Nat → Int32) (vkind : Nat → Int32) (vrhymes : Nat → Int32) (vpurse : Nat → Int32) (vhas : Nat → Int32) (vwishes : Nat → Int32) (vwishMany : Int32) (vsightLeft : Nat → Int32) (vsightRight : Nat → Int32) (vsightHow : Nat → Int32) (vsights : Int32) (vpad : Nat → Int32) (vpadMany : Int32) (vact : Nat → Int32) (vwho : Nat → Int32) (vwhich : Nat → Int32) (vwhom : Nat → Int32) (vacts : Int32) (vplace : Int32) (vopenMany : Int32) (vended : Int32) (vspoken : Int32) (vheaviest : Int32) (vheaviestWeight : Int32) (vhad : Nat → Int32) (vbadAct : Int32) (vbadWhy : Int32) (vbrings : Nat → Int64) (vbringsThen : Nat → Int64) (vkept : Nat → Int32) (visKept : Nat → Int32) (vkeptAt : Int32) (visWriting : Int32) (p0 : Int32) (p1 : Int32) (out : Int32) (hf : f_X5_isSentence vkind p0 p1 = some out) : kI l D K .boolean yX5_isSentence wsX5_isSentence rmX5_isSentence [.ref (q 0), .int p0, .int p1] (mdW K q vweight vkind vrhymes vpurse vhas vwishes vwishMany vsightLeft vsightRight vsightHow vsights vpad vpadMany vact vwho vwhich vwhom vacts vplace vopenMany vended vspoken vheaviest vheaviestWeight vhad vbadAct vbadWhy vbrings vbringsThen vkept visKept vkeptAt visWriting) out (mdW K q vweight vkind vrhymes vpurse vhas vwishes vwishMany vsightLeft vsightRight vsightHow vsights vpad vpadMany vact vwho vwhich vwhom vacts vplace vopenMany vended vspoken vheaviest vheaviestWeight vhad vbadAct vbadWhy vbrings vbringsThen vkept visKept vkeptAt visWriting) := by
  refine kI.of (cc := cX5_isSentence) (maxL := 4) (by decide) rfl (Nat.le_of_ble_eq_true rfl) ?_
  intro p e s m args below meth c A H0 Q ls hx hb hml hown hts hK hN hA hP hD hS hl hret
  have hown : s.vm.findClass RX5 = some m.cls := hown
  have hl : lv_has ls 4 [(0, .ref (q 0)), (1, .int p0), (2, .int p1)] := hl
  generalize hH : H0 = H at hP ⊢
  have hS : va_S A H0 H [] := by rw [← hH]; exact hS
  clear hH
  unfold f_X5_isSentence at hf
  refine lv_aload_n hx hb dX5_isSentence_0 rfl (lv_at hl 0 rfl) ?_
  refine lv_iload_n hx hb dX5_isSentence_1 rfl (lv_at hl 1 rfl) ?_
  refine lv_iconst (v := 0) hx hb dX5_isSentence_2 (by decide) ?_
  obtain ⟨o1, ho1, hf⟩ := ob_el hf
  refine kcw_i (D := D) (va_runV (As := [.int p0, .int 0]) (rest := []) ⟨hx, hb, hml, hown, hts⟩ ((k_X5_manyOf l D K q vweight vkind vrhymes vpurse vhas vwishes vwishMany vsightLeft vsightRight vsightHow vsights vpad vpadMany vact vwho vwhich vwhom vacts vplace vopenMany vended vspoken vheaviest vheaviestWeight vhad vbadAct vbadWhy vbrings vbringsThen vkept visKept vkeptAt visWriting p0 (0) o1 ho1) H.size) (cwV 2 hts gX5_isSentence_X5_manyOf rfl rfl rfl ⟨rfl, yd_X5_manyOf⟩ ⟨Nat.le_of_ble_eq_true rfl, Nat.le_of_ble_eq_true rfl⟩) (kPreV (ci := 5) (q0 := 0) hP rfl rfl hP hD hK hN) rfl rfl hl.1 rfl (lv_room (Nat.le_of_ble_eq_true rfl)) dX5_isSentence_3 ⟨Nat.le_of_ble_eq_true rfl, Nat.le_of_ble_eq_true rfl⟩) hD hS hA (fun hzo1 H locs hP hD hS => ?_)
  have hP : va_P D vwCl (mdW K q vweight vkind vrhymes vpurse vhas vwishes vwishMany vsightLeft vsightRight vsightHow vsights vpad vpadMany vact vwho vwhich vwhom vacts vplace vopenMany vended vspoken vheaviest vheaviestWeight vhad vbadAct vbadWhy vbrings vbringsThen vkept visKept vkeptAt visWriting) H := hP
  have hD : va_D A (mdW K q vweight vkind vrhymes vpurse vhas vwishes vwishMany vsightLeft vsightRight vsightHow vsights vpad vpadMany vact vwho vwhich vwhom vacts vplace vopenMany vended vspoken vheaviest vheaviestWeight vhad vbadAct vbadWhy vbrings vbringsThen vkept visKept vkeptAt visWriting) := hD
  refine lv_istore_n (lv' := [(3, .int o1), (0, .ref (q 0)), (1, .int p0), (2, .int p1)]) hx hb dX5_isSentence_6 rfl hl (by decide) rfl (fun ls hl => ?_)
  refine lv_iload_n hx hb dX5_isSentence_7 rfl (lv_at hl 2 rfl) ?_
  obtain ⟨o2, ho2, hf⟩ := ob_el hf
  refine kc0_i (D := D) (va_runS (As := [.int p0]) (rest := []) ⟨hx, hb, hml, hown, hts⟩ ((k_X5_ones l D K p0 o2 ho2) H.size) (va_cwS 1 hts gX5_isSentence_X5_ones rfl rfl rfl yd_X5_ones ⟨Nat.le_of_ble_eq_true rfl, Nat.le_of_ble_eq_true rfl⟩) (kPreS va_P_nil (va_D_nil (A := fun _ => True)) hK hN) rfl rfl hl.1 rfl (lv_room (Nat.le_of_ble_eq_true rfl)) dX5_isSentence_8 ⟨Nat.le_of_ble_eq_true rfl, Nat.le_of_ble_eq_true rfl⟩) hP hS hA (fun hzo2 H locs hP hS => ?_)
  refine lv_iload_n hx hb dX5_isSentence_11 rfl (lv_at hl 3 rfl) ?_
  refine lv_icmp_ne (tgt := 39) hx hb dX5_isSentence_12 (by decide) (fun c3 => ?_) (fun c3 => ?_)
  · rw [if_neg c3] at hf
    refine lv_iconst (v := 0) hx hb dX5_isSentence_39 (by decide) ?_
    obtain rfl := Option.some.inj hf
    exact hret rfl rfl rfl hP hD hS dX5_isSentence_40
  · rw [if_pos c3] at hf
    refine lv_aload_n hx hb dX5_isSentence_15 rfl (lv_at hl 1 rfl) ?_
    refine lv_iload_n hx hb dX5_isSentence_16 rfl (lv_at hl 2 rfl) ?_
    refine lv_iconst (v := 1) hx hb dX5_isSentence_17 (by decide) ?_
    obtain ⟨o4, ho4, hf⟩ := ob_el hf
    refine kcw_i (D := D) (va_runV (As := [.int p0, .int 1]) (rest := []) ⟨hx, hb, hml, hown, hts⟩ ((k_X5_manyOf l D K q vweight vkind vrhymes vpurse vhas vwishes vwishMany vsightLeft vsightRight vsightHow vsights vpad vpadMany vact vwho vwhich vwhom vacts vplace vopenMany vended vspoken vheaviest vheaviestWeight vhad vbadAct vbadWhy vbrings vbringsThen vkept visKept vkeptAt visWriting p0 (1) o4 ho4) H.size) (cwV 2 hts gX5_isSentence_X5_manyOf rfl rfl rfl ⟨rfl, yd_X5_manyOf⟩ ⟨Nat.le_of_ble_eq_true rfl, Nat.le_of_ble_eq_true rfl⟩) (kPreV (ci := 5) (q0 := 0) hP rfl rfl hP hD hK hN) rfl rfl hl.1 rfl (lv_room (Nat.le_of_ble_eq_true rfl)) dX5_isSentence_18 ⟨Nat.le_of_ble_eq_true rfl, Nat.le_of_ble_eq_true rfl⟩) hD hS hA (fun hzo4 H locs hP hD hS => ?_)
    have hP : va_P D vwCl (mdW K q vweight vkind vrhymes vpurse vhas vwishes vwishMany vsightLeft vsightRight vsightHow vsights vpad vpadMany vact vwho vwhich vwhom vacts vplace vopenMany vended vspoken vheaviest vheaviestWeight vhad vbadAct vbadWhy vbrings vbringsThen vkept visKept vkeptAt visWriting) H := hP
    have hD : va_D A (mdW K q vweight vkind vrhymes vpurse vhas vwishes vwishMany vsightLeft vsightRight vsightHow vsights vpad vpadMany vact vwho vwhich vwhom vacts vplace vopenMany vended vspoken vheaviest vheaviestWeight vhad vbadAct vbadWhy vbrings vbringsThen vkept visKept vkeptAt visWriting) := hD
    refine lv_iconst (v := 1) hx hb dX5_isSentence_21 (by decide) ?_
    refine lv_icmp_ne (tgt := 39) hx hb dX5_isSentence_22 (by decide) (fun c5 => ?_) (fun c5 => ?_)
    · rw [if_neg c5] at hf
      refine lv_iconst (v := 0) hx hb dX5_isSentence_39 (by decide) ?_
      obtain rfl := Option.some.inj hf
      exact hret rfl rfl rfl hP hD hS dX5_isSentence_40
    · rw [if_pos c5] at hf
      refine lv_iload_n hx hb dX5_isSentence_25 rfl (lv_at hl 0 rfl) ?_
      refine lv_iconst (v := 1) hx hb dX5_isSentence_26 (by decide) ?_
      refine lv_icmp_eq (tgt := 35) hx hb dX5_isSentence_27 (by decide) (fun c6 => ?_) (fun c6 => ?_)
      · rw [if_pos c6] at hf
        refine lv_iconst (v := 1) hx hb dX5_isSentence_35 (by decide) ?_
        refine lv_goto (tgt := 40) hx hb dX5_isSentence_36 (by decide) ?_
        obtain rfl := Option.some.inj hf
        exact hret rfl rfl rfl hP hD hS dX5_isSentence_40
      · rw [if_neg c6] at hf
        refine lv_iload_n hx hb dX5_isSentence_30 rfl (lv_at hl 0 rfl) ?_
        refine lv_iconst (v := 2) hx hb dX5_isSentence_31 (by decide) ?_
        refine lv_icmp_ne (tgt := 39) hx hb dX5_isSentence_32 (by decide) (fun c7 => ?_) (fun c7 => ?_)
        · rw [if_neg c7] at hf
          refine lv_iconst (v := 0) hx hb dX5_isSentence_39 (by decide) ?_
          obtain rfl := Option.some.inj hf
          exact hret rfl rfl rfl hP hD hS dX5_isSentence_40
        · rw [if_pos c7] at hf
          refine lv_iconst (v := 1) hx hb dX5_isSentence_35 (by decide) ?_
          refine lv_goto (tgt := 40) hx hb dX5_isSentence_36 (by decide) ?_
          obtain rfl := Option.some.inj hf
          exact hret rfl rfl rfl hP hD hS dX5_isSentence_40
def s_X5_costOf_4 (vweight : Nat → Int32) (p0 : Int32) (x : Int32 × Int32) : Option ((Int32 × Int32) ⊕ (Int32 × Int32)) := if 12 ≤ x.2 then (some (.inr (x.1, x.2))) else (if ((p0 >>> (x.2 &&& 31)) &&& 1) = 1 then (chk x.2 12 (some (.inl ((x.1 + (vweight (x.2).toNatClampNeg)), (x.2 + 1))))) else (some (.inl ((x.1 + 0), (x.2 + 1)))))
def f_X5_costOf (vweight : Nat → Int32) (p0 : Int32) : Option (Int32) := ob (wh (s_X5_costOf_4 vweight p0) 5000 (0, 0)) (fun r1 => some r1.1)
theorem inX5_costOf_X5 : ∀ w ∈ wsX50, w ∈ wsX5_costOf := fun w h => List.mem_cons_of_mem _ (List.mem_append_right _ h)
theorem yd_X5_costOf : yX5_costOf.cls ≠ "java/lang/invoke/MethodHandle" ∧ yX5_costOf.cls ≠ "java/lang/invoke/VarHandle" ∧ (parseMethodDescriptor yX5_costOf.desc).map (fun d => d.parameters.length) = some 1 := by decide +kernel
abbrev rmX5_costOf : Room := { frames := 0, cells := 0, slots := 0, locals := 0 }
set_option maxHeartbeats 4000000 in
set_option maxRecDepth 100000 in
theorem k_X5_costOf (l : Launch) (D : va_G) (K : Nat → ClassId) (q : Nat → Nat) (vweight : Nat → Int32) (vkind : Nat → Int32) (vrhymes : Nat → Int32) (vpurse : Nat → Int32) (vhas : Nat → Int32) (vwishes : Nat → Int32) (vwishMany : Int32) (vsightLeft : Nat → Int32) (vsightRight : Nat → Int32) (vsightHow : Nat → Int32) (vsights : Int32) (vpad : Nat → Int32) (vpadMany : Int32) (vact : Nat → Int32) (vwho : Nat → Int32) (vwhich : Nat → Int32) (vwhom : Nat → Int32) (vacts : Int32) (vplace : Int32) (vopenMany : Int32) (vended : Int32) (vspoken : Int32) (vheaviest : Int32) (vheaviestWeight : Int32) (vhad : Nat → Int32) (vbadAct : Int32) (vbadWhy : Int32) (vbrings : Nat → Int64) (vbringsThen : Nat → Int64) (vkept : Nat → Int32) (visKept : Nat → Int32) (vkeptAt : Int32) (visWriting : Int32) (p0 : Int32) (out : Int32) (hf : f_X5_costOf vweight p0 = some out) : kI l D K .int yX5_costOf wsX5_costOf rmX5_costOf [.ref (q 0), .int p0] (mdW K q vweight vkind vrhymes vpurse vhas vwishes vwishMany vsightLeft vsightRight vsightHow vsights vpad vpadMany vact vwho vwhich vwhom vacts vplace vopenMany vended vspoken vheaviest vheaviestWeight vhad vbadAct vbadWhy vbrings vbringsThen vkept visKept vkeptAt visWriting) out (mdW K q vweight vkind vrhymes vpurse vhas vwishes vwishMany vsightLeft vsightRight vsightHow vsights vpad vpadMany vact vwho vwhich vwhom vacts vplace vopenMany vended vspoken vheaviest vheaviestWeight vhad vbadAct vbadWhy vbrings vbringsThen vkept visKept vkeptAt visWriting) := by
  refine kI.of (cc := cX5_costOf) (maxL := 4) (by decide) rfl (Nat.le_of_ble_eq_true rfl) ?_
  intro p e s m args below meth c A H0 Q ls hx hb hml hown hts hK hN hA hP hD hS hl hret
  have hown : s.vm.findClass RX5 = some m.cls := hown
  have hl : lv_has ls 4 [(0, .ref (q 0)), (1, .int p0)] := hl
  generalize hH : H0 = H at hP ⊢
  have hS : va_S A H0 H [] := by rw [← hH]; exact hS
  clear hH
  unfold f_X5_costOf at hf
  refine lv_iconst (v := 0) hx hb dX5_costOf_0 (by decide) ?_
  refine lv_istore_n (lv' := [(2, .int 0), (0, .ref (q 0)), (1, .int p0)]) hx hb dX5_costOf_1 rfl hl (by decide) rfl (fun ls hl => ?_)
  refine lv_iconst (v := 0) hx hb dX5_costOf_2 (by decide) ?_
  refine lv_istore_n (lv' := [(3, .int 0), (2, .int 0), (0, .ref (q 0)), (1, .int p0)]) hx hb dX5_costOf_3 rfl hl (by decide) rfl (fun ls hl => ?_)
  obtain ⟨r1, hr1, hf⟩ := ob_el hf
  have post4 : ∀ (e4_l2 : Int32) (e4_l3 : Int32) (H : Heap) (locs : List Loc) (ls : Array Slot), (some e4_l2) = some out → va_P D vwCl (mdW K q vweight vkind vrhymes vpurse vhas vwishes vwishMany vsightLeft vsightRight vsightHow vsights vpad vpadMany vact vwho vwhich vwhom vacts vplace vopenMany vended vspoken vheaviest vheaviestWeight vhad vbadAct vbadWhy vbrings vbringsThen vkept visKept vkeptAt visWriting) H → va_D A (mdW K q vweight vkind vrhymes vpurse vhas vwishes vwishMany vsightLeft vsightRight vsightHow vsights vpad vpadMany vact vwho vwhich vwhom vacts vplace vopenMany vended vspoken vheaviest vheaviestWeight vhad vbadAct vbadWhy vbrings vbringsThen vkept visKept vkeptAt visWriting) → va_S A H0 H locs → lv_has ls 4 [(3, .int e4_l3), (2, .int e4_l2), (0, .ref (q 0)), (1, .int p0)] → W p l e rmX5_costOf s m args below meth c H locs 0 0 Q (F0 m 38 ls []) := by
    intro e4_l2 e4_l3 H locs ls hf hP hD hS hl
    refine lv_iload_n hx hb dX5_costOf_38 rfl (lv_at hl 1 rfl) ?_
    obtain rfl := Option.some.inj hf
    exact hret rfl rfl rfl hP hD hS dX5_costOf_39
  have lp4 : ∀ (fu : Nat) (x4_l2 : Int32) (x4_l3 : Int32) (H : Heap) (locs : List Loc) (ls : Array Slot), wh (s_X5_costOf_4 vweight p0) fu (x4_l2, x4_l3) = some r1 → va_P D vwCl (mdW K q vweight vkind vrhymes vpurse vhas vwishes vwishMany vsightLeft vsightRight vsightHow vsights vpad vpadMany vact vwho vwhich vwhom vacts vplace vopenMany vended vspoken vheaviest vheaviestWeight vhad vbadAct vbadWhy vbrings vbringsThen vkept visKept vkeptAt visWriting) H → va_D A (mdW K q vweight vkind vrhymes vpurse vhas vwishes vwishMany vsightLeft vsightRight vsightHow vsights vpad vpadMany vact vwho vwhich vwhom vacts vplace vopenMany vended vspoken vheaviest vheaviestWeight vhad vbadAct vbadWhy vbrings vbringsThen vkept visKept vkeptAt visWriting) → va_S A H0 H locs → lv_has ls 4 [(3, .int x4_l3), (2, .int x4_l2), (0, .ref (q 0)), (1, .int p0)] → W p l e rmX5_costOf s m args below meth c H locs 0 0 Q (F0 m 4 ls []) := by
    intro fu
    induction fu with
    | zero => intro x4_l2 x4_l3 H locs ls hw4; cases hw4
    | succ fu ih4 =>
      intro x4_l2 x4_l3 H locs ls hw4 hP hD hS hl
      obtain ⟨o4_, hs4, hw4⟩ := wh_el hw4
      unfold s_X5_costOf_4 at hs4
      dsimp only at hs4
      refine lv_iload_n hx hb dX5_costOf_4 rfl (lv_at hl 0 rfl) ?_
      refine lv_bipush (v := 12) hx hb dX5_costOf_5 (by decide) ?_
      refine lv_icmp_ge (tgt := 38) hx hb dX5_costOf_7 (by decide) (fun c2 => ?_) (fun c2 => ?_)
      · rw [if_pos c2] at hs4
        obtain rfl := Option.some.inj hs4
        have e9 := Option.some.inj hw4
        rw [← e9] at hf
        exact post4 _ _ _ _ _ hf hP hD hS (lv_sub hl [0, 1, 2, 3] rfl)
      · rw [if_neg c2] at hs4
        refine lv_iload_n hx hb dX5_costOf_10 rfl (lv_at hl 1 rfl) ?_
        refine lv_iload_n hx hb dX5_costOf_11 rfl (lv_at hl 3 rfl) ?_
        refine lv_iload_n hx hb dX5_costOf_12 rfl (lv_at hl 0 rfl) ?_
        refine lv_ishr hx hb dX5_costOf_13 ?_
        refine lv_iconst (v := 1) hx hb dX5_costOf_14 (by decide) ?_
        refine lv_iand hx hb dX5_costOf_15 ?_
        refine lv_iconst (v := 1) hx hb dX5_costOf_16 (by decide) ?_
        refine lv_icmp_ne (tgt := 29) hx hb dX5_costOf_17 (by decide) (fun c3 => ?_) (fun c3 => ?_)
        · rw [if_neg c3] at hs4
          refine lv_iconst (v := 0) hx hb dX5_costOf_29 (by decide) ?_
          refine lv_iadd hx hb dX5_costOf_30 ?_
          refine lv_istore_n (lv' := [(2, .int (x4_l2 + 0)), (3, .int x4_l3), (0, .ref (q 0)), (1, .int p0)]) hx hb dX5_costOf_31 rfl hl (by decide) rfl (fun ls hl => ?_)
          refine lv_iinc (v := (x4_l3 + 1)) (lv' := [(3, .int (x4_l3 + 1)), (2, .int (x4_l2 + 0)), (0, .ref (q 0)), (1, .int p0)]) hx hb dX5_costOf_32 hl (k := 1) rfl (by rfl) (by decide) rfl (fun ls hl => ?_)
          refine lv_goto (tgt := 4) hx hb dX5_costOf_35 (by decide) ?_
          obtain rfl := Option.some.inj hs4
          exact ih4 _ _ _ _ _ hw4 hP hD hS (lv_sub hl [0, 1, 2, 3] rfl)
        · rw [if_pos c3] at hs4
          refine lv_aload_n hx hb dX5_costOf_20 rfl (lv_at hl 2 rfl) ?_
          refine va_get (D := D) (ci := 5) (v := .ref (q 1)) (C := RX5) (T := TX5) (N := 33) hx hb hts inX5_costOf_X5 hown hK hP 0 rfl rfl 0 (by decide) (hts (.fieldLink RX5 7 "WordScalesModel" "weight" "[I") (List.mem_of_getElem? (i := 1) rfl)) (fun _ h9 => h9) rfl dX5_costOf_21 ?_
          refine lv_iload_n hx hb dX5_costOf_24 rfl (lv_at hl 0 rfl) ?_
          obtain ⟨v4, hs4⟩ := chk_el hs4
          refine va_iald (D := D) (f := vweight) hx hb hK hP 1 0 rfl rfl v4 dX5_costOf_25 ?_
          refine lv_goto (tgt := 30) hx hb dX5_costOf_26 (by decide) ?_
          refine lv_iadd hx hb dX5_costOf_30 ?_
          refine lv_istore_n (lv' := [(2, .int (x4_l2 + (vweight (x4_l3).toNatClampNeg))), (3, .int x4_l3), (0, .ref (q 0)), (1, .int p0)]) hx hb dX5_costOf_31 rfl hl (by decide) rfl (fun ls hl => ?_)
          refine lv_iinc (v := (x4_l3 + 1)) (lv' := [(3, .int (x4_l3 + 1)), (2, .int (x4_l2 + (vweight (x4_l3).toNatClampNeg))), (0, .ref (q 0)), (1, .int p0)]) hx hb dX5_costOf_32 hl (k := 1) rfl (by rfl) (by decide) rfl (fun ls hl => ?_)
          refine lv_goto (tgt := 4) hx hb dX5_costOf_35 (by decide) ?_
          obtain rfl := Option.some.inj hs4
          exact ih4 _ _ _ _ _ hw4 hP hD hS (lv_sub hl [0, 1, 2, 3] rfl)
  exact lp4 5000 _ _ _ _ _ hr1 hP hD hS (lv_sub hl [0, 1, 2, 3] rfl)
def s_X5_cheap_44 (vweight : Nat → Int32) (vkind : Nat → Int32) (vhas : Nat → Int32) (p0 : Int32) (p1 : Int32) (x : Int32 × Int32 × Int32) : Option ((Int32 × Int32 × Int32) ⊕ (Int32 × Int32 × Int32)) := if 4095 < x.2.2 then (some (.inr (x.1, x.2.1, x.2.2))) else (ob (f_X5_isSentence vkind x.2.2 p1) (fun o11 => if o11 = 0 then (some (.inl (x.1, x.2.1, (x.2.2 + 1)))) else (chk p0 4 (ob (f_X5_costOf vweight (x.2.2 &&& ((vhas (p0).toNatClampNeg) ^^^ (-1)))) (fun o14 => if x.1 < 0 then (if x.2.2 = x.2.2 then (some (.inl (x.2.2, o14, (x.2.2 + 1)))) else (some (.inl (x.2.2, x.2.1, (x.2.2 + 1))))) else (if x.2.1 ≤ o14 then (if x.1 = x.2.2 then (some (.inl (x.1, o14, (x.2.2 + 1)))) else (some (.inl (x.1, x.2.1, (x.2.2 + 1))))) else (if x.2.2 = x.2.2 then (some (.inl (x.2.2, o14, (x.2.2 + 1)))) else (some (.inl (x.2.2, x.2.1, (x.2.2 + 1)))))))))))
def f_X5_cheap (vweight : Nat → Int32) (vkind : Nat → Int32) (vhas : Nat → Int32) (p0 : Int32) (p1 : Int32) (p2 : Int32) : Option (Int32) := bd (f_X5_isSpeaker p0) (fun o1 => if o1 = 0 then (some (-1)) else (bd (f_X5_in p1.toInt64 (1) (8)) (fun o3 => if o3 = 0 then (some (-2)) else (bd (f_X5_in p2.toInt64 (0) (1)) (fun o5 => if o5 = 0 then (some (-2)) else (ob (wh (s_X5_cheap_44 vweight vkind vhas p0 p1) 5000 ((-6), 0, 1)) (fun r7 => if r7.1 < 0 then (some r7.1) else (if p2 = 1 then (some r7.1) else (some r7.2.1)))))))))
theorem inX5_cheap_X5 : ∀ w ∈ wsX50, w ∈ wsX5_cheap := fun w h => List.mem_cons_of_mem _ (List.mem_append_right _ h)
theorem yd_X5_cheap : yX5_cheap.cls ≠ "java/lang/invoke/MethodHandle" ∧ yX5_cheap.cls ≠ "java/lang/invoke/VarHandle" ∧ (parseMethodDescriptor yX5_cheap.desc).map (fun d => d.parameters.length) = some 3 := by decide +kernel
abbrev rmX5_cheap : Room := { frames := 2, cells := 0, slots := 0, locals := 47 }
set_option maxHeartbeats 4000000 in
set_option maxRecDepth 100000 in
theorem k_X5_cheap (l : Launch) (D : va_G) (K : Nat → ClassId) (q : Nat → Nat) (vweight : Nat → Int32) (vkind : Nat → Int32) (vrhymes : Nat → Int32) (vpurse : Nat → Int32) (vhas : Nat → Int32) (vwishes : Nat → Int32) (vwishMany : Int32) (vsightLeft : Nat → Int32) (vsightRight : Nat → Int32) (vsightHow : Nat → Int32) (vsights : Int32) (vpad : Nat → Int32) (vpadMany : Int32) (vact : Nat → Int32) (vwho : Nat → Int32) (vwhich : Nat → Int32) (vwhom : Nat → Int32) (vacts : Int32) (vplace : Int32) (vopenMany : Int32) (vended : Int32) (vspoken : Int32) (vheaviest : Int32) (vheaviestWeight : Int32) (vhad : Nat → Int32) (vbadAct : Int32) (vbadWhy : Int32) (vbrings : Nat → Int64) (vbringsThen : Nat → Int64) (vkept : Nat → Int32) (visKept : Nat → Int32) (vkeptAt : Int32) (visWriting : Int32) (p0 : Int32) (p1 : Int32) (p2 : Int32) (out : Int32) (hf : f_X5_cheap vweight vkind vhas p0 p1 p2 = some out) : kI l D K .int yX5_cheap wsX5_cheap rmX5_cheap [.ref (q 0), .int p0, .int p1, .int p2] (mdW K q vweight vkind vrhymes vpurse vhas vwishes vwishMany vsightLeft vsightRight vsightHow vsights vpad vpadMany vact vwho vwhich vwhom vacts vplace vopenMany vended vspoken vheaviest vheaviestWeight vhad vbadAct vbadWhy vbrings vbringsThen vkept visKept vkeptAt visWriting) out (mdW K q vweight vkind vrhymes vpurse vhas vwishes vwishMany vsightLeft vsightRight vsightHow vsights vpad vpadMany vact vwho vwhich vwhom vacts vplace vopenMany vended vspoken vheaviest vheaviestWeight vhad vbadAct vbadWhy vbrings vbringsThen vkept visKept vkeptAt visWriting) := by
  refine kI.of (cc := cX5_cheap) (maxL := 8) (by decide) rfl (Nat.le_of_ble_eq_true rfl) ?_
  intro p e s m args below meth c A H0 Q ls hx hb hml hown hts hK hN hA hP hD hS hl hret
  have hown : s.vm.findClass RX5 = some m.cls := hown
  have hl : lv_has ls 8 [(0, .ref (q 0)), (1, .int p0), (2, .int p1), (3, .int p2)] := hl
  generalize hH : H0 = H at hP ⊢
  have hS : va_S A H0 H [] := by rw [← hH]; exact hS
  clear hH
  unfold f_X5_cheap at hf
  refine lv_iload_n hx hb dX5_cheap_0 rfl (lv_at hl 1 rfl) ?_
  obtain ⟨o1, ho1, hf⟩ := bd_el hf
  refine kc0_i (D := D) (va_runS (As := [.int p0]) (rest := []) ⟨hx, hb, hml, hown, hts⟩ ((k_X5_isSpeaker l D K p0 o1 ho1) H.size) (va_cwS 1 hts gX5_cheap_X5_isSpeaker rfl rfl rfl yd_X5_isSpeaker ⟨Nat.le_of_ble_eq_true rfl, Nat.le_of_ble_eq_true rfl⟩) (kPreS va_P_nil (va_D_nil (A := fun _ => True)) hK hN) rfl rfl hl.1 rfl (lv_room (Nat.le_of_ble_eq_true rfl)) dX5_cheap_1 ⟨Nat.le_of_ble_eq_true rfl, Nat.le_of_ble_eq_true rfl⟩) hP hS hA (fun hzo1 H locs hP hS => ?_)
  refine lv_if_ne (tgt := 9) hx hb dX5_cheap_4 (by decide) (fun c2 => ?_) (fun c2 => ?_)
  · rw [if_neg c2] at hf
    refine lv_iload_n hx hb dX5_cheap_9 rfl (lv_at hl 2 rfl) ?_
    refine lv_i2l (v := p1.toInt64) hx hb dX5_cheap_10 rfl ?_
    refine lv_lconst (v := 1) hx hb dX5_cheap_11 (by decide) ?_
    refine lv_ldc2 hx hb hown (hts (.constantLong RX5 198 (8)) (List.mem_of_getElem? (i := 1) rfl)) dX5_cheap_12 ?_
    obtain ⟨o3, ho3, hf⟩ := bd_el hf
    refine kc0_i (D := D) (va_runS (As := [.long p1.toInt64, .long 1, .long 8]) (rest := []) ⟨hx, hb, hml, hown, hts⟩ ((k_X5_in l D K p1.toInt64 (1) (8) o3 ho3) H.size) (va_cwS 3 hts gX5_cheap_X5_in rfl rfl rfl yd_X5_in ⟨Nat.le_of_ble_eq_true rfl, Nat.le_of_ble_eq_true rfl⟩) (kPreS va_P_nil (va_D_nil (A := fun _ => True)) hK hN) rfl rfl hl.1 rfl (lv_room (Nat.le_of_ble_eq_true rfl)) dX5_cheap_15 ⟨Nat.le_of_ble_eq_true rfl, Nat.le_of_ble_eq_true rfl⟩) hP hS hA (fun hzo3 H locs hP hS => ?_)
    refine lv_if_eq (tgt := 31) hx hb dX5_cheap_18 (by decide) (fun c4 => ?_) (fun c4 => ?_)
    · rw [if_pos c4] at hf
      refine lv_bipush (v := (-2)) hx hb dX5_cheap_31 (by decide) ?_
      obtain rfl := Option.some.inj hf
      exact hret rfl rfl rfl hP hD hS dX5_cheap_33
    · rw [if_neg c4] at hf
      refine lv_iload_n hx hb dX5_cheap_21 rfl (lv_at hl 3 rfl) ?_
      refine lv_i2l (v := p2.toInt64) hx hb dX5_cheap_22 rfl ?_
      refine lv_lconst (v := 0) hx hb dX5_cheap_23 (by decide) ?_
      refine lv_lconst (v := 1) hx hb dX5_cheap_24 (by decide) ?_
      obtain ⟨o5, ho5, hf⟩ := bd_el hf
      refine kc0_i (D := D) (va_runS (As := [.long p2.toInt64, .long 0, .long 1]) (rest := []) ⟨hx, hb, hml, hown, hts⟩ ((k_X5_in l D K p2.toInt64 (0) (1) o5 ho5) H.size) (va_cwS 3 hts gX5_cheap_X5_in rfl rfl rfl yd_X5_in ⟨Nat.le_of_ble_eq_true rfl, Nat.le_of_ble_eq_true rfl⟩) (kPreS va_P_nil (va_D_nil (A := fun _ => True)) hK hN) rfl rfl hl.1 rfl (lv_room (Nat.le_of_ble_eq_true rfl)) dX5_cheap_25 ⟨Nat.le_of_ble_eq_true rfl, Nat.le_of_ble_eq_true rfl⟩) hP hS hA (fun hzo5 H locs hP hS => ?_)
      refine lv_if_ne (tgt := 34) hx hb dX5_cheap_28 (by decide) (fun c6 => ?_) (fun c6 => ?_)
      · rw [if_neg c6] at hf
        refine lv_bipush (v := (-6)) hx hb dX5_cheap_34 (by decide) ?_
        refine lv_istore (lv' := [(4, .int (-6)), (0, .ref (q 0)), (1, .int p0), (2, .int p1), (3, .int p2)]) hx hb dX5_cheap_36 hl (by decide) rfl (fun ls hl => ?_)
        refine lv_iconst (v := 0) hx hb dX5_cheap_38 (by decide) ?_
        refine lv_istore (lv' := [(5, .int 0), (4, .int (-6)), (0, .ref (q 0)), (1, .int p0), (2, .int p1), (3, .int p2)]) hx hb dX5_cheap_39 hl (by decide) rfl (fun ls hl => ?_)
        refine lv_iconst (v := 1) hx hb dX5_cheap_41 (by decide) ?_
        refine lv_istore (lv' := [(6, .int 1), (5, .int 0), (4, .int (-6)), (0, .ref (q 0)), (1, .int p0), (2, .int p1), (3, .int p2)]) hx hb dX5_cheap_42 hl (by decide) rfl (fun ls hl => ?_)
        obtain ⟨r7, hr7, hf⟩ := ob_el hf
        have post44 : ∀ (e44_l4 : Int32) (e44_l5 : Int32) (e44_l6 : Int32) (H : Heap) (locs : List Loc) (ls : Array Slot), (if e44_l4 < 0 then (some e44_l4) else (if p2 = 1 then (some e44_l4) else (some e44_l5))) = some out → va_P D vwCl (mdW K q vweight vkind vrhymes vpurse vhas vwishes vwishMany vsightLeft vsightRight vsightHow vsights vpad vpadMany vact vwho vwhich vwhom vacts vplace vopenMany vended vspoken vheaviest vheaviestWeight vhad vbadAct vbadWhy vbrings vbringsThen vkept visKept vkeptAt visWriting) H → va_D A (mdW K q vweight vkind vrhymes vpurse vhas vwishes vwishMany vsightLeft vsightRight vsightHow vsights vpad vpadMany vact vwho vwhich vwhom vacts vplace vopenMany vended vspoken vheaviest vheaviestWeight vhad vbadAct vbadWhy vbrings vbringsThen vkept visKept vkeptAt visWriting) → va_S A H0 H locs → lv_has ls 8 [(6, .int e44_l6), (5, .int e44_l5), (4, .int e44_l4), (0, .ref (q 0)), (1, .int p0), (2, .int p1), (3, .int p2)] → W p l e rmX5_cheap s m args below meth c H locs 0 0 Q (F0 m 122 ls []) := by
          intro e44_l4 e44_l5 e44_l6 H locs ls hf hP hD hS hl
          refine lv_iload hx hb dX5_cheap_122 (lv_at hl 2 rfl) ?_
          refine lv_if_lt (tgt := 132) hx hb dX5_cheap_124 (by decide) (fun c8 => ?_) (fun c8 => ?_)
          · rw [if_pos c8] at hf
            refine lv_iload hx hb dX5_cheap_132 (lv_at hl 2 rfl) ?_
            refine lv_goto (tgt := 139) hx hb dX5_cheap_134 (by decide) ?_
            obtain rfl := Option.some.inj hf
            exact hret rfl rfl rfl hP hD hS dX5_cheap_139
          · rw [if_neg c8] at hf
            refine lv_iload_n hx hb dX5_cheap_127 rfl (lv_at hl 6 rfl) ?_
            refine lv_iconst (v := 1) hx hb dX5_cheap_128 (by decide) ?_
            refine lv_icmp_ne (tgt := 137) hx hb dX5_cheap_129 (by decide) (fun c9 => ?_) (fun c9 => ?_)
            · rw [if_neg c9] at hf
              refine lv_iload hx hb dX5_cheap_137 (lv_at hl 1 rfl) ?_
              obtain rfl := Option.some.inj hf
              exact hret rfl rfl rfl hP hD hS dX5_cheap_139
            · rw [if_pos c9] at hf
              refine lv_iload hx hb dX5_cheap_132 (lv_at hl 2 rfl) ?_
              refine lv_goto (tgt := 139) hx hb dX5_cheap_134 (by decide) ?_
              obtain rfl := Option.some.inj hf
              exact hret rfl rfl rfl hP hD hS dX5_cheap_139
        have lp44 : ∀ (fu : Nat) (x44_l4 : Int32) (x44_l5 : Int32) (x44_l6 : Int32) (H : Heap) (locs : List Loc) (ls : Array Slot), wh (s_X5_cheap_44 vweight vkind vhas p0 p1) fu (x44_l4, x44_l5, x44_l6) = some r7 → va_P D vwCl (mdW K q vweight vkind vrhymes vpurse vhas vwishes vwishMany vsightLeft vsightRight vsightHow vsights vpad vpadMany vact vwho vwhich vwhom vacts vplace vopenMany vended vspoken vheaviest vheaviestWeight vhad vbadAct vbadWhy vbrings vbringsThen vkept visKept vkeptAt visWriting) H → va_D A (mdW K q vweight vkind vrhymes vpurse vhas vwishes vwishMany vsightLeft vsightRight vsightHow vsights vpad vpadMany vact vwho vwhich vwhom vacts vplace vopenMany vended vspoken vheaviest vheaviestWeight vhad vbadAct vbadWhy vbrings vbringsThen vkept visKept vkeptAt visWriting) → va_S A H0 H locs → lv_has ls 8 [(6, .int x44_l6), (5, .int x44_l5), (4, .int x44_l4), (0, .ref (q 0)), (1, .int p0), (2, .int p1), (3, .int p2)] → W p l e rmX5_cheap s m args below meth c H locs 0 0 Q (F0 m 44 ls []) := by
          intro fu
          induction fu with
          | zero => intro x44_l4 x44_l5 x44_l6 H locs ls hw44; cases hw44
          | succ fu ih44 =>
            intro x44_l4 x44_l5 x44_l6 H locs ls hw44 hP hD hS hl
            obtain ⟨o44_, hs44, hw44⟩ := wh_el hw44
            unfold s_X5_cheap_44 at hs44
            dsimp only at hs44
            refine lv_iload hx hb dX5_cheap_44 (lv_at hl 0 rfl) ?_
            refine lv_sipush (v := 4095) hx hb dX5_cheap_46 (by decide) ?_
            refine lv_icmp_gt (tgt := 122) hx hb dX5_cheap_49 (by decide) (fun c10 => ?_) (fun c10 => ?_)
            · rw [if_pos c10] at hs44
              obtain rfl := Option.some.inj hs44
              have e9 := Option.some.inj hw44
              rw [← e9] at hf
              exact post44 _ _ _ _ _ _ hf hP hD hS (lv_sub hl [0, 1, 2, 3, 4, 5, 6] rfl)
            · rw [if_neg c10] at hs44
              refine lv_aload_n hx hb dX5_cheap_52 rfl (lv_at hl 3 rfl) ?_
              refine lv_iload hx hb dX5_cheap_53 (lv_at hl 0 rfl) ?_
              refine lv_iload_n hx hb dX5_cheap_55 rfl (lv_at hl 5 rfl) ?_
              obtain ⟨o11, ho11, hs44⟩ := ob_el hs44
              refine kcw_i (D := D) (va_runV (As := [.int x44_l6, .int p1]) (rest := []) ⟨hx, hb, hml, hown, hts⟩ ((k_X5_isSentence l D K q vweight vkind vrhymes vpurse vhas vwishes vwishMany vsightLeft vsightRight vsightHow vsights vpad vpadMany vact vwho vwhich vwhom vacts vplace vopenMany vended vspoken vheaviest vheaviestWeight vhad vbadAct vbadWhy vbrings vbringsThen vkept visKept vkeptAt visWriting x44_l6 p1 o11 ho11) H.size) (cwV 2 hts gX5_cheap_X5_isSentence rfl rfl rfl ⟨rfl, yd_X5_isSentence⟩ ⟨Nat.le_of_ble_eq_true rfl, Nat.le_of_ble_eq_true rfl⟩) (kPreV (ci := 5) (q0 := 0) hP rfl rfl hP hD hK hN) rfl rfl hl.1 rfl (lv_room (Nat.le_of_ble_eq_true rfl)) dX5_cheap_56 ⟨Nat.le_of_ble_eq_true rfl, Nat.le_of_ble_eq_true rfl⟩) hD hS hA (fun hzo11 H locs hP hD hS => ?_)
              have hP : va_P D vwCl (mdW K q vweight vkind vrhymes vpurse vhas vwishes vwishMany vsightLeft vsightRight vsightHow vsights vpad vpadMany vact vwho vwhich vwhom vacts vplace vopenMany vended vspoken vheaviest vheaviestWeight vhad vbadAct vbadWhy vbrings vbringsThen vkept visKept vkeptAt visWriting) H := hP
              have hD : va_D A (mdW K q vweight vkind vrhymes vpurse vhas vwishes vwishMany vsightLeft vsightRight vsightHow vsights vpad vpadMany vact vwho vwhich vwhom vacts vplace vopenMany vended vspoken vheaviest vheaviestWeight vhad vbadAct vbadWhy vbrings vbringsThen vkept visKept vkeptAt visWriting) := hD
              refine lv_if_eq (tgt := 116) hx hb dX5_cheap_59 (by decide) (fun c12 => ?_) (fun c12 => ?_)
              · rw [if_pos c12] at hs44
                refine lv_iinc (v := (x44_l6 + 1)) (lv' := [(6, .int (x44_l6 + 1)), (5, .int x44_l5), (4, .int x44_l4), (0, .ref (q 0)), (1, .int p0), (2, .int p1), (3, .int p2)]) hx hb dX5_cheap_116 hl (k := 0) rfl (by rfl) (by decide) rfl (fun ls hl => ?_)
                refine lv_goto (tgt := 44) hx hb dX5_cheap_119 (by decide) ?_
                obtain rfl := Option.some.inj hs44
                exact ih44 _ _ _ _ _ _ hw44 hP hD hS (lv_sub hl [0, 1, 2, 3, 4, 5, 6] rfl)
              · rw [if_neg c12] at hs44
                refine lv_aload_n hx hb dX5_cheap_62 rfl (lv_at hl 3 rfl) ?_
                refine lv_iload hx hb dX5_cheap_63 (lv_at hl 0 rfl) ?_
                refine lv_aload_n hx hb dX5_cheap_65 rfl (lv_at hl 3 rfl) ?_
                refine va_get (D := D) (ci := 5) (v := .ref (q 5)) (C := RX5) (T := TX5) (N := 33) hx hb hts inX5_cheap_X5 hown hK hP 0 rfl rfl 4 (by decide) (hts (.fieldLink RX5 22 "WordScalesModel" "has" "[I") (List.mem_of_getElem? (i := 2) rfl)) (fun _ h9 => h9) rfl dX5_cheap_66 ?_
                refine lv_iload_n hx hb dX5_cheap_69 rfl (lv_at hl 4 rfl) ?_
                obtain ⟨v13, hs44⟩ := chk_el hs44
                refine va_iald (D := D) (f := vhas) hx hb hK hP 5 0 rfl rfl v13 dX5_cheap_70 ?_
                refine lv_iconst (v := (-1)) hx hb dX5_cheap_71 (by decide) ?_
                refine lv_ixor hx hb dX5_cheap_72 ?_
                refine lv_iand hx hb dX5_cheap_73 ?_
                obtain ⟨o14, ho14, hs44⟩ := ob_el hs44
                refine kcw_i (D := D) (va_runV (As := [.int (x44_l6 &&& ((vhas (p0).toNatClampNeg) ^^^ (-1)))]) (rest := []) ⟨hx, hb, hml, hown, hts⟩ ((k_X5_costOf l D K q vweight vkind vrhymes vpurse vhas vwishes vwishMany vsightLeft vsightRight vsightHow vsights vpad vpadMany vact vwho vwhich vwhom vacts vplace vopenMany vended vspoken vheaviest vheaviestWeight vhad vbadAct vbadWhy vbrings vbringsThen vkept visKept vkeptAt visWriting (x44_l6 &&& ((vhas (p0).toNatClampNeg) ^^^ (-1))) o14 ho14) H.size) (cwV 1 hts gX5_cheap_X5_costOf rfl rfl rfl ⟨rfl, yd_X5_costOf⟩ ⟨Nat.le_of_ble_eq_true rfl, Nat.le_of_ble_eq_true rfl⟩) (kPreV (ci := 5) (q0 := 0) hP rfl rfl hP hD hK hN) rfl rfl hl.1 rfl (lv_room (Nat.le_of_ble_eq_true rfl)) dX5_cheap_74 ⟨Nat.le_of_ble_eq_true rfl, Nat.le_of_ble_eq_true rfl⟩) hD hS hA (fun hzo14 H locs hP hD hS => ?_)
                have hP : va_P D vwCl (mdW K q vweight vkind vrhymes vpurse vhas vwishes vwishMany vsightLeft vsightRight vsightHow vsights vpad vpadMany vact vwho vwhich vwhom vacts vplace vopenMany vended vspoken vheaviest vheaviestWeight vhad vbadAct vbadWhy vbrings vbringsThen vkept visKept vkeptAt visWriting) H := hP
                have hD : va_D A (mdW K q vweight vkind vrhymes vpurse vhas vwishes vwishMany vsightLeft vsightRight vsightHow vsights vpad vpadMany vact vwho vwhich vwhom vacts vplace vopenMany vended vspoken vheaviest vheaviestWeight vhad vbadAct vbadWhy vbrings vbringsThen vkept visKept vkeptAt visWriting) := hD
                refine lv_istore (lv' := [(7, .int o14), (6, .int x44_l6), (5, .int x44_l5), (4, .int x44_l4), (0, .ref (q 0)), (1, .int p0), (2, .int p1), (3, .int p2)]) hx hb dX5_cheap_77 hl (by decide) rfl (fun ls hl => ?_)
                refine lv_iload hx hb dX5_cheap_79 (lv_at hl 3 rfl) ?_
                refine lv_if_lt (tgt := 91) hx hb dX5_cheap_81 (by decide) (fun c15 => ?_) (fun c15 => ?_)
                · rw [if_pos c15] at hs44
                  refine lv_iload hx hb dX5_cheap_91 (lv_at hl 1 rfl) ?_
                  refine lv_goto (tgt := 98) hx hb dX5_cheap_93 (by decide) ?_
                  refine lv_istore (lv' := [(4, .int x44_l6), (7, .int o14), (6, .int x44_l6), (5, .int x44_l5), (0, .ref (q 0)), (1, .int p0), (2, .int p1), (3, .int p2)]) hx hb dX5_cheap_98 hl (by decide) rfl (fun ls hl => ?_)
                  refine lv_iload hx hb dX5_cheap_100 (lv_at hl 0 rfl) ?_
                  refine lv_iload hx hb dX5_cheap_102 (lv_at hl 2 rfl) ?_
                  refine lv_icmp_ne (tgt := 112) hx hb dX5_cheap_104 (by decide) (fun c16 => ?_) (fun c16 => ?_)
                  · rw [if_neg c16] at hs44
                    refine lv_iload hx hb dX5_cheap_112 (lv_at hl 3 rfl) ?_
                    refine lv_istore (lv' := [(5, .int x44_l5), (4, .int x44_l6), (7, .int o14), (6, .int x44_l6), (0, .ref (q 0)), (1, .int p0), (2, .int p1), (3, .int p2)]) hx hb dX5_cheap_114 hl (by decide) rfl (fun ls hl => ?_)
                    refine lv_iinc (v := (x44_l6 + 1)) (lv' := [(6, .int (x44_l6 + 1)), (5, .int x44_l5), (4, .int x44_l6), (7, .int o14), (0, .ref (q 0)), (1, .int p0), (2, .int p1), (3, .int p2)]) hx hb dX5_cheap_116 hl (k := 3) rfl (by rfl) (by decide) rfl (fun ls hl => ?_)
                    refine lv_goto (tgt := 44) hx hb dX5_cheap_119 (by decide) ?_
                    obtain rfl := Option.some.inj hs44
                    exact ih44 _ _ _ _ _ _ hw44 hP hD hS (lv_sub hl [0, 1, 2, 4, 5, 6, 7] rfl)
                  · rw [if_pos c16] at hs44
                    refine lv_iload hx hb dX5_cheap_107 (lv_at hl 1 rfl) ?_
                    refine lv_goto (tgt := 114) hx hb dX5_cheap_109 (by decide) ?_
                    refine lv_istore (lv' := [(5, .int o14), (4, .int x44_l6), (7, .int o14), (6, .int x44_l6), (0, .ref (q 0)), (1, .int p0), (2, .int p1), (3, .int p2)]) hx hb dX5_cheap_114 hl (by decide) rfl (fun ls hl => ?_)
                    refine lv_iinc (v := (x44_l6 + 1)) (lv' := [(6, .int (x44_l6 + 1)), (5, .int o14), (4, .int x44_l6), (7, .int o14), (0, .ref (q 0)), (1, .int p0), (2, .int p1), (3, .int p2)]) hx hb dX5_cheap_116 hl (k := 3) rfl (by rfl) (by decide) rfl (fun ls hl => ?_)
                    refine lv_goto (tgt := 44) hx hb dX5_cheap_119 (by decide) ?_
                    obtain rfl := Option.some.inj hs44
                    exact ih44 _ _ _ _ _ _ hw44 hP hD hS (lv_sub hl [0, 1, 2, 4, 5, 6, 7] rfl)
                · rw [if_neg c15] at hs44
                  refine lv_iload hx hb dX5_cheap_84 (lv_at hl 0 rfl) ?_
                  refine lv_iload hx hb dX5_cheap_86 (lv_at hl 2 rfl) ?_
                  refine lv_icmp_ge (tgt := 96) hx hb dX5_cheap_88 (by decide) (fun c17 => ?_) (fun c17 => ?_)
                  · rw [if_pos c17] at hs44
                    refine lv_iload hx hb dX5_cheap_96 (lv_at hl 3 rfl) ?_
                    refine lv_istore (lv' := [(4, .int x44_l4), (7, .int o14), (6, .int x44_l6), (5, .int x44_l5), (0, .ref (q 0)), (1, .int p0), (2, .int p1), (3, .int p2)]) hx hb dX5_cheap_98 hl (by decide) rfl (fun ls hl => ?_)
                    refine lv_iload hx hb dX5_cheap_100 (lv_at hl 0 rfl) ?_
                    refine lv_iload hx hb dX5_cheap_102 (lv_at hl 2 rfl) ?_
                    refine lv_icmp_ne (tgt := 112) hx hb dX5_cheap_104 (by decide) (fun c18 => ?_) (fun c18 => ?_)
                    · rw [if_neg c18] at hs44
                      refine lv_iload hx hb dX5_cheap_112 (lv_at hl 3 rfl) ?_
                      refine lv_istore (lv' := [(5, .int x44_l5), (4, .int x44_l4), (7, .int o14), (6, .int x44_l6), (0, .ref (q 0)), (1, .int p0), (2, .int p1), (3, .int p2)]) hx hb dX5_cheap_114 hl (by decide) rfl (fun ls hl => ?_)
                      refine lv_iinc (v := (x44_l6 + 1)) (lv' := [(6, .int (x44_l6 + 1)), (5, .int x44_l5), (4, .int x44_l4), (7, .int o14), (0, .ref (q 0)), (1, .int p0), (2, .int p1), (3, .int p2)]) hx hb dX5_cheap_116 hl (k := 3) rfl (by rfl) (by decide) rfl (fun ls hl => ?_)
                      refine lv_goto (tgt := 44) hx hb dX5_cheap_119 (by decide) ?_
                      obtain rfl := Option.some.inj hs44
                      exact ih44 _ _ _ _ _ _ hw44 hP hD hS (lv_sub hl [0, 1, 2, 4, 5, 6, 7] rfl)
                    · rw [if_pos c18] at hs44
                      refine lv_iload hx hb dX5_cheap_107 (lv_at hl 1 rfl) ?_
                      refine lv_goto (tgt := 114) hx hb dX5_cheap_109 (by decide) ?_
                      refine lv_istore (lv' := [(5, .int o14), (4, .int x44_l4), (7, .int o14), (6, .int x44_l6), (0, .ref (q 0)), (1, .int p0), (2, .int p1), (3, .int p2)]) hx hb dX5_cheap_114 hl (by decide) rfl (fun ls hl => ?_)
                      refine lv_iinc (v := (x44_l6 + 1)) (lv' := [(6, .int (x44_l6 + 1)), (5, .int o14), (4, .int x44_l4), (7, .int o14), (0, .ref (q 0)), (1, .int p0), (2, .int p1), (3, .int p2)]) hx hb dX5_cheap_116 hl (k := 3) rfl (by rfl) (by decide) rfl (fun ls hl => ?_)
                      refine lv_goto (tgt := 44) hx hb dX5_cheap_119 (by decide) ?_
                      obtain rfl := Option.some.inj hs44
                      exact ih44 _ _ _ _ _ _ hw44 hP hD hS (lv_sub hl [0, 1, 2, 4, 5, 6, 7] rfl)
                  · rw [if_neg c17] at hs44
                    refine lv_iload hx hb dX5_cheap_91 (lv_at hl 1 rfl) ?_
                    refine lv_goto (tgt := 98) hx hb dX5_cheap_93 (by decide) ?_
                    refine lv_istore (lv' := [(4, .int x44_l6), (7, .int o14), (6, .int x44_l6), (5, .int x44_l5), (0, .ref (q 0)), (1, .int p0), (2, .int p1), (3, .int p2)]) hx hb dX5_cheap_98 hl (by decide) rfl (fun ls hl => ?_)
                    refine lv_iload hx hb dX5_cheap_100 (lv_at hl 0 rfl) ?_
                    refine lv_iload hx hb dX5_cheap_102 (lv_at hl 2 rfl) ?_
                    refine lv_icmp_ne (tgt := 112) hx hb dX5_cheap_104 (by decide) (fun c19 => ?_) (fun c19 => ?_)
                    · rw [if_neg c19] at hs44
                      refine lv_iload hx hb dX5_cheap_112 (lv_at hl 3 rfl) ?_
                      refine lv_istore (lv' := [(5, .int x44_l5), (4, .int x44_l6), (7, .int o14), (6, .int x44_l6), (0, .ref (q 0)), (1, .int p0), (2, .int p1), (3, .int p2)]) hx hb dX5_cheap_114 hl (by decide) rfl (fun ls hl => ?_)
                      refine lv_iinc (v := (x44_l6 + 1)) (lv' := [(6, .int (x44_l6 + 1)), (5, .int x44_l5), (4, .int x44_l6), (7, .int o14), (0, .ref (q 0)), (1, .int p0), (2, .int p1), (3, .int p2)]) hx hb dX5_cheap_116 hl (k := 3) rfl (by rfl) (by decide) rfl (fun ls hl => ?_)
                      refine lv_goto (tgt := 44) hx hb dX5_cheap_119 (by decide) ?_
                      obtain rfl := Option.some.inj hs44
                      exact ih44 _ _ _ _ _ _ hw44 hP hD hS (lv_sub hl [0, 1, 2, 4, 5, 6, 7] rfl)
                    · rw [if_pos c19] at hs44
                      refine lv_iload hx hb dX5_cheap_107 (lv_at hl 1 rfl) ?_
                      refine lv_goto (tgt := 114) hx hb dX5_cheap_109 (by decide) ?_
                      refine lv_istore (lv' := [(5, .int o14), (4, .int x44_l6), (7, .int o14), (6, .int x44_l6), (0, .ref (q 0)), (1, .int p0), (2, .int p1), (3, .int p2)]) hx hb dX5_cheap_114 hl (by decide) rfl (fun ls hl => ?_)
                      refine lv_iinc (v := (x44_l6 + 1)) (lv' := [(6, .int (x44_l6 + 1)), (5, .int o14), (4, .int x44_l6), (7, .int o14), (0, .ref (q 0)), (1, .int p0), (2, .int p1), (3, .int p2)]) hx hb dX5_cheap_116 hl (k := 3) rfl (by rfl) (by decide) rfl (fun ls hl => ?_)
                      refine lv_goto (tgt := 44) hx hb dX5_cheap_119 (by decide) ?_
                      obtain rfl := Option.some.inj hs44
                      exact ih44 _ _ _ _ _ _ hw44 hP hD hS (lv_sub hl [0, 1, 2, 4, 5, 6, 7] rfl)
        exact lp44 5000 _ _ _ _ _ _ hr7 hP hD hS (lv_sub hl [0, 1, 2, 3, 4, 5, 6] rfl)
      · rw [if_pos c6] at hf
        refine lv_bipush (v := (-2)) hx hb dX5_cheap_31 (by decide) ?_
        obtain rfl := Option.some.inj hf
        exact hret rfl rfl rfl hP hD hS dX5_cheap_33
  · rw [if_pos c2] at hf
    refine lv_iconst (v := (-1)) hx hb dX5_cheap_7 (by decide) ?_
    obtain rfl := Option.some.inj hf
    exact hret rfl rfl rfl hP hD hS dX5_cheap_8
def f_X5_canSay (vkind : Nat → Int32) (p0 : Int32) (p1 : Int32) : Option (Int32) := ob (f_X5_manyOf vkind p0 (0)) (fun o1 => ob (f_X5_manyOf vkind p0 (2)) (fun o2 => if p1 < 2 then (if p1 < 3 then (ob (f_X5_manyOf vkind p0 (1)) (fun o5 => if o5 < 1 then (some 0) else (some 0))) else (if o1 < 2 then (ob (f_X5_manyOf vkind p0 (1)) (fun o10 => if o10 < 1 then (some 0) else (some 0))) else (if o2 < (p1 - 3) then (ob (f_X5_manyOf vkind p0 (1)) (fun o15 => if o15 < 1 then (some 0) else (some 0))) else (ob (f_X5_manyOf vkind p0 (1)) (fun o19 => if o19 < 1 then (some 0) else (some 1)))))) else (if o1 < 1 then (if p1 < 3 then (ob (f_X5_manyOf vkind p0 (1)) (fun o25 => if o25 < 1 then (some 0) else (some 0))) else (if o1 < 2 then (ob (f_X5_manyOf vkind p0 (1)) (fun o30 => if o30 < 1 then (some 0) else (some 0))) else (if o2 < (p1 - 3) then (ob (f_X5_manyOf vkind p0 (1)) (fun o35 => if o35 < 1 then (some 0) else (some 0))) else (ob (f_X5_manyOf vkind p0 (1)) (fun o39 => if o39 < 1 then (some 0) else (some 1)))))) else (if o2 < (p1 - 2) then (if p1 < 3 then (ob (f_X5_manyOf vkind p0 (1)) (fun o45 => if o45 < 1 then (some 0) else (some 0))) else (if o1 < 2 then (ob (f_X5_manyOf vkind p0 (1)) (fun o50 => if o50 < 1 then (some 0) else (some 0))) else (if o2 < (p1 - 3) then (ob (f_X5_manyOf vkind p0 (1)) (fun o55 => if o55 < 1 then (some 0) else (some 0))) else (ob (f_X5_manyOf vkind p0 (1)) (fun o59 => if o59 < 1 then (some 0) else (some 1)))))) else (if p1 < 3 then (ob (f_X5_manyOf vkind p0 (1)) (fun o64 => if o64 < 1 then (some 0) else (some 1))) else (if o1 < 2 then (ob (f_X5_manyOf vkind p0 (1)) (fun o68 => if o68 < 1 then (some 0) else (some 1))) else (if o2 < (p1 - 3) then (ob (f_X5_manyOf vkind p0 (1)) (fun o72 => if o72 < 1 then (some 0) else (some 1))) else (ob (f_X5_manyOf vkind p0 (1)) (fun o75 => if o75 < 1 then (some 0) else (some 1))))))))))
theorem yd_X5_canSay : yX5_canSay.cls ≠ "java/lang/invoke/MethodHandle" ∧ yX5_canSay.cls ≠ "java/lang/invoke/VarHandle" ∧ (parseMethodDescriptor yX5_canSay.desc).map (fun d => d.parameters.length) = some 2 := by decide +kernel
abbrev rmX5_canSay : Room := { frames := 1, cells := 0, slots := 0, locals := 24 }
set_option maxHeartbeats 4000000 in
set_option maxRecDepth 100000 in
theorem k_X5_canSay (l : Launch) (D : va_G) (K : Nat → ClassId) (q : Nat → Nat) (vweight : Nat → Int32) (vkind : Nat → Int32) (vrhymes : Nat → Int32) (vpurse : Nat → Int32) (vhas : Nat → Int32) (vwishes : Nat → Int32) (vwishMany : Int32) (vsightLeft : Nat → Int32) (vsightRight : Nat → Int32) (vsightHow : Nat → Int32) (vsights : Int32) (vpad : Nat → Int32) (vpadMany : Int32) (vact : Nat → Int32) (vwho : Nat → Int32) (vwhich : Nat → Int32) (vwhom : Nat → Int32) (vacts : Int32) (vplace : Int32) (vopenMany : Int32) (vended : Int32) (vspoken : Int32) (vheaviest : Int32) (vheaviestWeight : Int32) (vhad : Nat → Int32) (vbadAct : Int32) (vbadWhy : Int32) (vbrings : Nat → Int64) (vbringsThen : Nat → Int64) (vkept : Nat → Int32) (visKept : Nat → Int32) (vkeptAt : Int32) (visWriting : Int32) (p0 : Int32) (p1 : Int32) (out : Int32) (hf : f_X5_canSay vkind p0 p1 = some out) : kI l D K .boolean yX5_canSay wsX5_canSay rmX5_canSay [.ref (q 0), .int p0, .int p1] (mdW K q vweight vkind vrhymes vpurse vhas vwishes vwishMany vsightLeft vsightRight vsightHow vsights vpad vpadMany vact vwho vwhich vwhom vacts vplace vopenMany vended vspoken vheaviest vheaviestWeight vhad vbadAct vbadWhy vbrings vbringsThen vkept visKept vkeptAt visWriting) out (mdW K q vweight vkind vrhymes vpurse vhas vwishes vwishMany vsightLeft vsightRight vsightHow vsights vpad vpadMany vact vwho vwhich vwhom vacts vplace vopenMany vended vspoken vheaviest vheaviestWeight vhad vbadAct vbadWhy vbrings vbringsThen vkept visKept vkeptAt visWriting) := by
  refine kI.of (cc := cX5_canSay) (maxL := 7) (by decide) rfl (Nat.le_of_ble_eq_true rfl) ?_
  intro p e s m args below meth c A H0 Q ls hx hb hml hown hts hK hN hA hP hD hS hl hret
  have hown : s.vm.findClass RX5 = some m.cls := hown
  have hl : lv_has ls 7 [(0, .ref (q 0)), (1, .int p0), (2, .int p1)] := hl
  generalize hH : H0 = H at hP ⊢
  have hS : va_S A H0 H [] := by rw [← hH]; exact hS
  clear hH
  unfold f_X5_canSay at hf
  refine lv_aload_n hx hb dX5_canSay_0 rfl (lv_at hl 0 rfl) ?_
  refine lv_iload_n hx hb dX5_canSay_1 rfl (lv_at hl 1 rfl) ?_
  refine lv_iconst (v := 0) hx hb dX5_canSay_2 (by decide) ?_
  obtain ⟨o1, ho1, hf⟩ := ob_el hf
  refine kcw_i (D := D) (va_runV (As := [.int p0, .int 0]) (rest := []) ⟨hx, hb, hml, hown, hts⟩ ((k_X5_manyOf l D K q vweight vkind vrhymes vpurse vhas vwishes vwishMany vsightLeft vsightRight vsightHow vsights vpad vpadMany vact vwho vwhich vwhom vacts vplace vopenMany vended vspoken vheaviest vheaviestWeight vhad vbadAct vbadWhy vbrings vbringsThen vkept visKept vkeptAt visWriting p0 (0) o1 ho1) H.size) (cwV 2 hts gX5_canSay_X5_manyOf rfl rfl rfl ⟨rfl, yd_X5_manyOf⟩ ⟨Nat.le_of_ble_eq_true rfl, Nat.le_of_ble_eq_true rfl⟩) (kPreV (ci := 5) (q0 := 0) hP rfl rfl hP hD hK hN) rfl rfl hl.1 rfl (lv_room (Nat.le_of_ble_eq_true rfl)) dX5_canSay_3 ⟨Nat.le_of_ble_eq_true rfl, Nat.le_of_ble_eq_true rfl⟩) hD hS hA (fun hzo1 H locs hP hD hS => ?_)
  have hP : va_P D vwCl (mdW K q vweight vkind vrhymes vpurse vhas vwishes vwishMany vsightLeft vsightRight vsightHow vsights vpad vpadMany vact vwho vwhich vwhom vacts vplace vopenMany vended vspoken vheaviest vheaviestWeight vhad vbadAct vbadWhy vbrings vbringsThen vkept visKept vkeptAt visWriting) H := hP
  have hD : va_D A (mdW K q vweight vkind vrhymes vpurse vhas vwishes vwishMany vsightLeft vsightRight vsightHow vsights vpad vpadMany vact vwho vwhich vwhom vacts vplace vopenMany vended vspoken vheaviest vheaviestWeight vhad vbadAct vbadWhy vbrings vbringsThen vkept visKept vkeptAt visWriting) := hD
  refine lv_istore_n (lv' := [(3, .int o1), (0, .ref (q 0)), (1, .int p0), (2, .int p1)]) hx hb dX5_canSay_6 rfl hl (by decide) rfl (fun ls hl => ?_)
  refine lv_aload_n hx hb dX5_canSay_7 rfl (lv_at hl 1 rfl) ?_
  refine lv_iload_n hx hb dX5_canSay_8 rfl (lv_at hl 2 rfl) ?_
  refine lv_iconst (v := 2) hx hb dX5_canSay_9 (by decide) ?_
  obtain ⟨o2, ho2, hf⟩ := ob_el hf
  refine kcw_i (D := D) (va_runV (As := [.int p0, .int 2]) (rest := []) ⟨hx, hb, hml, hown, hts⟩ ((k_X5_manyOf l D K q vweight vkind vrhymes vpurse vhas vwishes vwishMany vsightLeft vsightRight vsightHow vsights vpad vpadMany vact vwho vwhich vwhom vacts vplace vopenMany vended vspoken vheaviest vheaviestWeight vhad vbadAct vbadWhy vbrings vbringsThen vkept visKept vkeptAt visWriting p0 (2) o2 ho2) H.size) (cwV 2 hts gX5_canSay_X5_manyOf rfl rfl rfl ⟨rfl, yd_X5_manyOf⟩ ⟨Nat.le_of_ble_eq_true rfl, Nat.le_of_ble_eq_true rfl⟩) (kPreV (ci := 5) (q0 := 0) hP rfl rfl hP hD hK hN) rfl rfl hl.1 rfl (lv_room (Nat.le_of_ble_eq_true rfl)) dX5_canSay_10 ⟨Nat.le_of_ble_eq_true rfl, Nat.le_of_ble_eq_true rfl⟩) hD hS hA (fun hzo2 H locs hP hD hS => ?_)
  have hP : va_P D vwCl (mdW K q vweight vkind vrhymes vpurse vhas vwishes vwishMany vsightLeft vsightRight vsightHow vsights vpad vpadMany vact vwho vwhich vwhom vacts vplace vopenMany vended vspoken vheaviest vheaviestWeight vhad vbadAct vbadWhy vbrings vbringsThen vkept visKept vkeptAt visWriting) H := hP
  have hD : va_D A (mdW K q vweight vkind vrhymes vpurse vhas vwishes vwishMany vsightLeft vsightRight vsightHow vsights vpad vpadMany vact vwho vwhich vwhom vacts vplace vopenMany vended vspoken vheaviest vheaviestWeight vhad vbadAct vbadWhy vbrings vbringsThen vkept visKept vkeptAt visWriting) := hD
  refine lv_istore (lv' := [(4, .int o2), (3, .int o1), (0, .ref (q 0)), (1, .int p0), (2, .int p1)]) hx hb dX5_canSay_13 hl (by decide) rfl (fun ls hl => ?_)
  refine lv_iload_n hx hb dX5_canSay_15 rfl (lv_at hl 4 rfl) ?_
  refine lv_iconst (v := 2) hx hb dX5_canSay_16 (by decide) ?_
  refine lv_icmp_lt (tgt := 37) hx hb dX5_canSay_17 (by decide) (fun c3 => ?_) (fun c3 => ?_)
  · rw [if_pos c3] at hf
    refine lv_iconst (v := 0) hx hb dX5_canSay_37 (by decide) ?_
    refine lv_istore (lv' := [(5, .int 0), (4, .int o2), (3, .int o1), (0, .ref (q 0)), (1, .int p0), (2, .int p1)]) hx hb dX5_canSay_38 hl (by decide) rfl (fun ls hl => ?_)
    refine lv_iload_n hx hb dX5_canSay_40 rfl (lv_at hl 5 rfl) ?_
    refine lv_iconst (v := 3) hx hb dX5_canSay_41 (by decide) ?_
    refine lv_icmp_lt (tgt := 62) hx hb dX5_canSay_42 (by decide) (fun c4 => ?_) (fun c4 => ?_)
    · rw [if_pos c4] at hf
      refine lv_iconst (v := 0) hx hb dX5_canSay_62 (by decide) ?_
      refine lv_istore (lv' := [(6, .int 0), (5, .int 0), (4, .int o2), (3, .int o1), (0, .ref (q 0)), (1, .int p0), (2, .int p1)]) hx hb dX5_canSay_63 hl (by decide) rfl (fun ls hl => ?_)
      refine lv_aload_n hx hb dX5_canSay_65 rfl (lv_at hl 4 rfl) ?_
      refine lv_iload_n hx hb dX5_canSay_66 rfl (lv_at hl 5 rfl) ?_
      refine lv_iconst (v := 1) hx hb dX5_canSay_67 (by decide) ?_
      obtain ⟨o5, ho5, hf⟩ := ob_el hf
      refine kcw_i (D := D) (va_runV (As := [.int p0, .int 1]) (rest := []) ⟨hx, hb, hml, hown, hts⟩ ((k_X5_manyOf l D K q vweight vkind vrhymes vpurse vhas vwishes vwishMany vsightLeft vsightRight vsightHow vsights vpad vpadMany vact vwho vwhich vwhom vacts vplace vopenMany vended vspoken vheaviest vheaviestWeight vhad vbadAct vbadWhy vbrings vbringsThen vkept visKept vkeptAt visWriting p0 (1) o5 ho5) H.size) (cwV 2 hts gX5_canSay_X5_manyOf rfl rfl rfl ⟨rfl, yd_X5_manyOf⟩ ⟨Nat.le_of_ble_eq_true rfl, Nat.le_of_ble_eq_true rfl⟩) (kPreV (ci := 5) (q0 := 0) hP rfl rfl hP hD hK hN) rfl rfl hl.1 rfl (lv_room (Nat.le_of_ble_eq_true rfl)) dX5_canSay_68 ⟨Nat.le_of_ble_eq_true rfl, Nat.le_of_ble_eq_true rfl⟩) hD hS hA (fun hzo5 H locs hP hD hS => ?_)
      have hP : va_P D vwCl (mdW K q vweight vkind vrhymes vpurse vhas vwishes vwishMany vsightLeft vsightRight vsightHow vsights vpad vpadMany vact vwho vwhich vwhom vacts vplace vopenMany vended vspoken vheaviest vheaviestWeight vhad vbadAct vbadWhy vbrings vbringsThen vkept visKept vkeptAt visWriting) H := hP
      have hD : va_D A (mdW K q vweight vkind vrhymes vpurse vhas vwishes vwishMany vsightLeft vsightRight vsightHow vsights vpad vpadMany vact vwho vwhich vwhom vacts vplace vopenMany vended vspoken vheaviest vheaviestWeight vhad vbadAct vbadWhy vbrings vbringsThen vkept visKept vkeptAt visWriting) := hD
      refine lv_iconst (v := 1) hx hb dX5_canSay_71 (by decide) ?_
      refine lv_icmp_lt (tgt := 89) hx hb dX5_canSay_72 (by decide) (fun c6 => ?_) (fun c6 => ?_)
      · rw [if_pos c6] at hf
        refine lv_iconst (v := 0) hx hb dX5_canSay_89 (by decide) ?_
        obtain rfl := Option.some.inj hf
        exact hret rfl rfl rfl hP hD hS dX5_canSay_90
      · rw [if_neg c6] at hf
        refine lv_iload hx hb dX5_canSay_75 (lv_at hl 1 rfl) ?_
        refine lv_if_ne (tgt := 85) hx hb dX5_canSay_77 (by decide) (fun c7 => ?_) (fun c7 => ?_)
        · exact absurd (by decide : (0 : Int32) = 0) c7
        · skip
          refine lv_iload hx hb dX5_canSay_80 (lv_at hl 0 rfl) ?_
          refine lv_if_eq (tgt := 89) hx hb dX5_canSay_82 (by decide) (fun c8 => ?_) (fun c8 => ?_)
          · skip
            refine lv_iconst (v := 0) hx hb dX5_canSay_89 (by decide) ?_
            obtain rfl := Option.some.inj hf
            exact hret rfl rfl rfl hP hD hS dX5_canSay_90
          · exact absurd (by decide : (0 : Int32) = 0) c8
    · rw [if_neg c4] at hf
      refine lv_iload_n hx hb dX5_canSay_45 rfl (lv_at hl 2 rfl) ?_
      refine lv_iconst (v := 2) hx hb dX5_canSay_46 (by decide) ?_
      refine lv_icmp_lt (tgt := 62) hx hb dX5_canSay_47 (by decide) (fun c9 => ?_) (fun c9 => ?_)
      · rw [if_pos c9] at hf
        refine lv_iconst (v := 0) hx hb dX5_canSay_62 (by decide) ?_
        refine lv_istore (lv' := [(6, .int 0), (5, .int 0), (4, .int o2), (3, .int o1), (0, .ref (q 0)), (1, .int p0), (2, .int p1)]) hx hb dX5_canSay_63 hl (by decide) rfl (fun ls hl => ?_)
        refine lv_aload_n hx hb dX5_canSay_65 rfl (lv_at hl 4 rfl) ?_
        refine lv_iload_n hx hb dX5_canSay_66 rfl (lv_at hl 5 rfl) ?_
        refine lv_iconst (v := 1) hx hb dX5_canSay_67 (by decide) ?_
        obtain ⟨o10, ho10, hf⟩ := ob_el hf
        refine kcw_i (D := D) (va_runV (As := [.int p0, .int 1]) (rest := []) ⟨hx, hb, hml, hown, hts⟩ ((k_X5_manyOf l D K q vweight vkind vrhymes vpurse vhas vwishes vwishMany vsightLeft vsightRight vsightHow vsights vpad vpadMany vact vwho vwhich vwhom vacts vplace vopenMany vended vspoken vheaviest vheaviestWeight vhad vbadAct vbadWhy vbrings vbringsThen vkept visKept vkeptAt visWriting p0 (1) o10 ho10) H.size) (cwV 2 hts gX5_canSay_X5_manyOf rfl rfl rfl ⟨rfl, yd_X5_manyOf⟩ ⟨Nat.le_of_ble_eq_true rfl, Nat.le_of_ble_eq_true rfl⟩) (kPreV (ci := 5) (q0 := 0) hP rfl rfl hP hD hK hN) rfl rfl hl.1 rfl (lv_room (Nat.le_of_ble_eq_true rfl)) dX5_canSay_68 ⟨Nat.le_of_ble_eq_true rfl, Nat.le_of_ble_eq_true rfl⟩) hD hS hA (fun hzo10 H locs hP hD hS => ?_)
        have hP : va_P D vwCl (mdW K q vweight vkind vrhymes vpurse vhas vwishes vwishMany vsightLeft vsightRight vsightHow vsights vpad vpadMany vact vwho vwhich vwhom vacts vplace vopenMany vended vspoken vheaviest vheaviestWeight vhad vbadAct vbadWhy vbrings vbringsThen vkept visKept vkeptAt visWriting) H := hP
        have hD : va_D A (mdW K q vweight vkind vrhymes vpurse vhas vwishes vwishMany vsightLeft vsightRight vsightHow vsights vpad vpadMany vact vwho vwhich vwhom vacts vplace vopenMany vended vspoken vheaviest vheaviestWeight vhad vbadAct vbadWhy vbrings vbringsThen vkept visKept vkeptAt visWriting) := hD
        refine lv_iconst (v := 1) hx hb dX5_canSay_71 (by decide) ?_
        refine lv_icmp_lt (tgt := 89) hx hb dX5_canSay_72 (by decide) (fun c11 => ?_) (fun c11 => ?_)
        · rw [if_pos c11] at hf
          refine lv_iconst (v := 0) hx hb dX5_canSay_89 (by decide) ?_
          obtain rfl := Option.some.inj hf
          exact hret rfl rfl rfl hP hD hS dX5_canSay_90
        · rw [if_neg c11] at hf
          refine lv_iload hx hb dX5_canSay_75 (lv_at hl 1 rfl) ?_
          refine lv_if_ne (tgt := 85) hx hb dX5_canSay_77 (by decide) (fun c12 => ?_) (fun c12 => ?_)
          · exact absurd (by decide : (0 : Int32) = 0) c12
          · skip
            refine lv_iload hx hb dX5_canSay_80 (lv_at hl 0 rfl) ?_
            refine lv_if_eq (tgt := 89) hx hb dX5_canSay_82 (by decide) (fun c13 => ?_) (fun c13 => ?_)
            · skip
              refine lv_iconst (v := 0) hx hb dX5_canSay_89 (by decide) ?_
              obtain rfl := Option.some.inj hf
              exact hret rfl rfl rfl hP hD hS dX5_canSay_90
            · exact absurd (by decide : (0 : Int32) = 0) c13
      · rw [if_neg c9] at hf
        refine lv_iload hx hb dX5_canSay_50 (lv_at hl 1 rfl) ?_
        refine lv_iload_n hx hb dX5_canSay_52 rfl (lv_at hl 5 rfl) ?_
        refine lv_iconst (v := 3) hx hb dX5_canSay_53 (by decide) ?_
        refine lv_isub hx hb dX5_canSay_54 ?_
        refine lv_icmp_lt (tgt := 62) hx hb dX5_canSay_55 (by decide) (fun c14 => ?_) (fun c14 => ?_)
        · rw [if_pos c14] at hf
          refine lv_iconst (v := 0) hx hb dX5_canSay_62 (by decide) ?_
          refine lv_istore (lv' := [(6, .int 0), (5, .int 0), (4, .int o2), (3, .int o1), (0, .ref (q 0)), (1, .int p0), (2, .int p1)]) hx hb dX5_canSay_63 hl (by decide) rfl (fun ls hl => ?_)
          refine lv_aload_n hx hb dX5_canSay_65 rfl (lv_at hl 4 rfl) ?_
          refine lv_iload_n hx hb dX5_canSay_66 rfl (lv_at hl 5 rfl) ?_
          refine lv_iconst (v := 1) hx hb dX5_canSay_67 (by decide) ?_
          obtain ⟨o15, ho15, hf⟩ := ob_el hf
          refine kcw_i (D := D) (va_runV (As := [.int p0, .int 1]) (rest := []) ⟨hx, hb, hml, hown, hts⟩ ((k_X5_manyOf l D K q vweight vkind vrhymes vpurse vhas vwishes vwishMany vsightLeft vsightRight vsightHow vsights vpad vpadMany vact vwho vwhich vwhom vacts vplace vopenMany vended vspoken vheaviest vheaviestWeight vhad vbadAct vbadWhy vbrings vbringsThen vkept visKept vkeptAt visWriting p0 (1) o15 ho15) H.size) (cwV 2 hts gX5_canSay_X5_manyOf rfl rfl rfl ⟨rfl, yd_X5_manyOf⟩ ⟨Nat.le_of_ble_eq_true rfl, Nat.le_of_ble_eq_true rfl⟩) (kPreV (ci := 5) (q0 := 0) hP rfl rfl hP hD hK hN) rfl rfl hl.1 rfl (lv_room (Nat.le_of_ble_eq_true rfl)) dX5_canSay_68 ⟨Nat.le_of_ble_eq_true rfl, Nat.le_of_ble_eq_true rfl⟩) hD hS hA (fun hzo15 H locs hP hD hS => ?_)
          have hP : va_P D vwCl (mdW K q vweight vkind vrhymes vpurse vhas vwishes vwishMany vsightLeft vsightRight vsightHow vsights vpad vpadMany vact vwho vwhich vwhom vacts vplace vopenMany vended vspoken vheaviest vheaviestWeight vhad vbadAct vbadWhy vbrings vbringsThen vkept visKept vkeptAt visWriting) H := hP
          have hD : va_D A (mdW K q vweight vkind vrhymes vpurse vhas vwishes vwishMany vsightLeft vsightRight vsightHow vsights vpad vpadMany vact vwho vwhich vwhom vacts vplace vopenMany vended vspoken vheaviest vheaviestWeight vhad vbadAct vbadWhy vbrings vbringsThen vkept visKept vkeptAt visWriting) := hD
          refine lv_iconst (v := 1) hx hb dX5_canSay_71 (by decide) ?_
          refine lv_icmp_lt (tgt := 89) hx hb dX5_canSay_72 (by decide) (fun c16 => ?_) (fun c16 => ?_)
          · rw [if_pos c16] at hf
            refine lv_iconst (v := 0) hx hb dX5_canSay_89 (by decide) ?_
            obtain rfl := Option.some.inj hf
            exact hret rfl rfl rfl hP hD hS dX5_canSay_90
          · rw [if_neg c16] at hf
            refine lv_iload hx hb dX5_canSay_75 (lv_at hl 1 rfl) ?_
            refine lv_if_ne (tgt := 85) hx hb dX5_canSay_77 (by decide) (fun c17 => ?_) (fun c17 => ?_)
            · exact absurd (by decide : (0 : Int32) = 0) c17
            · skip
              refine lv_iload hx hb dX5_canSay_80 (lv_at hl 0 rfl) ?_
              refine lv_if_eq (tgt := 89) hx hb dX5_canSay_82 (by decide) (fun c18 => ?_) (fun c18 => ?_)
              · skip
                refine lv_iconst (v := 0) hx hb dX5_canSay_89 (by decide) ?_
                obtain rfl := Option.some.inj hf
                exact hret rfl rfl rfl hP hD hS dX5_canSay_90
              · exact absurd (by decide : (0 : Int32) = 0) c18
        · rw [if_neg c14] at hf
          refine lv_iconst (v := 1) hx hb dX5_canSay_58 (by decide) ?_
          refine lv_goto (tgt := 63) hx hb dX5_canSay_59 (by decide) ?_
          refine lv_istore (lv' := [(6, .int 1), (5, .int 0), (4, .int o2), (3, .int o1), (0, .ref (q 0)), (1, .int p0), (2, .int p1)]) hx hb dX5_canSay_63 hl (by decide) rfl (fun ls hl => ?_)
          refine lv_aload_n hx hb dX5_canSay_65 rfl (lv_at hl 4 rfl) ?_
          refine lv_iload_n hx hb dX5_canSay_66 rfl (lv_at hl 5 rfl) ?_
          refine lv_iconst (v := 1) hx hb dX5_canSay_67 (by decide) ?_
          obtain ⟨o19, ho19, hf⟩ := ob_el hf
          refine kcw_i (D := D) (va_runV (As := [.int p0, .int 1]) (rest := []) ⟨hx, hb, hml, hown, hts⟩ ((k_X5_manyOf l D K q vweight vkind vrhymes vpurse vhas vwishes vwishMany vsightLeft vsightRight vsightHow vsights vpad vpadMany vact vwho vwhich vwhom vacts vplace vopenMany vended vspoken vheaviest vheaviestWeight vhad vbadAct vbadWhy vbrings vbringsThen vkept visKept vkeptAt visWriting p0 (1) o19 ho19) H.size) (cwV 2 hts gX5_canSay_X5_manyOf rfl rfl rfl ⟨rfl, yd_X5_manyOf⟩ ⟨Nat.le_of_ble_eq_true rfl, Nat.le_of_ble_eq_true rfl⟩) (kPreV (ci := 5) (q0 := 0) hP rfl rfl hP hD hK hN) rfl rfl hl.1 rfl (lv_room (Nat.le_of_ble_eq_true rfl)) dX5_canSay_68 ⟨Nat.le_of_ble_eq_true rfl, Nat.le_of_ble_eq_true rfl⟩) hD hS hA (fun hzo19 H locs hP hD hS => ?_)
          have hP : va_P D vwCl (mdW K q vweight vkind vrhymes vpurse vhas vwishes vwishMany vsightLeft vsightRight vsightHow vsights vpad vpadMany vact vwho vwhich vwhom vacts vplace vopenMany vended vspoken vheaviest vheaviestWeight vhad vbadAct vbadWhy vbrings vbringsThen vkept visKept vkeptAt visWriting) H := hP
          have hD : va_D A (mdW K q vweight vkind vrhymes vpurse vhas vwishes vwishMany vsightLeft vsightRight vsightHow vsights vpad vpadMany vact vwho vwhich vwhom vacts vplace vopenMany vended vspoken vheaviest vheaviestWeight vhad vbadAct vbadWhy vbrings vbringsThen vkept visKept vkeptAt visWriting) := hD
          refine lv_iconst (v := 1) hx hb dX5_canSay_71 (by decide) ?_
          refine lv_icmp_lt (tgt := 89) hx hb dX5_canSay_72 (by decide) (fun c20 => ?_) (fun c20 => ?_)
          · rw [if_pos c20] at hf
            refine lv_iconst (v := 0) hx hb dX5_canSay_89 (by decide) ?_
            obtain rfl := Option.some.inj hf
            exact hret rfl rfl rfl hP hD hS dX5_canSay_90
          · rw [if_neg c20] at hf
            refine lv_iload hx hb dX5_canSay_75 (lv_at hl 1 rfl) ?_
            refine lv_if_ne (tgt := 85) hx hb dX5_canSay_77 (by decide) (fun c21 => ?_) (fun c21 => ?_)
            · exact absurd (by decide : (0 : Int32) = 0) c21
            · skip
              refine lv_iload hx hb dX5_canSay_80 (lv_at hl 0 rfl) ?_
              refine lv_if_eq (tgt := 89) hx hb dX5_canSay_82 (by decide) (fun c22 => ?_) (fun c22 => ?_)
              · exact absurd c22 (by decide : ¬ (1 : Int32) = 0)
              · skip
                refine lv_iconst (v := 1) hx hb dX5_canSay_85 (by decide) ?_
                refine lv_goto (tgt := 90) hx hb dX5_canSay_86 (by decide) ?_
                obtain rfl := Option.some.inj hf
                exact hret rfl rfl rfl hP hD hS dX5_canSay_90
  · rw [if_neg c3] at hf
    refine lv_iload_n hx hb dX5_canSay_20 rfl (lv_at hl 1 rfl) ?_
    refine lv_iconst (v := 1) hx hb dX5_canSay_21 (by decide) ?_
    refine lv_icmp_lt (tgt := 37) hx hb dX5_canSay_22 (by decide) (fun c23 => ?_) (fun c23 => ?_)
    · rw [if_pos c23] at hf
      refine lv_iconst (v := 0) hx hb dX5_canSay_37 (by decide) ?_
      refine lv_istore (lv' := [(5, .int 0), (4, .int o2), (3, .int o1), (0, .ref (q 0)), (1, .int p0), (2, .int p1)]) hx hb dX5_canSay_38 hl (by decide) rfl (fun ls hl => ?_)
      refine lv_iload_n hx hb dX5_canSay_40 rfl (lv_at hl 5 rfl) ?_
      refine lv_iconst (v := 3) hx hb dX5_canSay_41 (by decide) ?_
      refine lv_icmp_lt (tgt := 62) hx hb dX5_canSay_42 (by decide) (fun c24 => ?_) (fun c24 => ?_)
      · rw [if_pos c24] at hf
        refine lv_iconst (v := 0) hx hb dX5_canSay_62 (by decide) ?_
        refine lv_istore (lv' := [(6, .int 0), (5, .int 0), (4, .int o2), (3, .int o1), (0, .ref (q 0)), (1, .int p0), (2, .int p1)]) hx hb dX5_canSay_63 hl (by decide) rfl (fun ls hl => ?_)
        refine lv_aload_n hx hb dX5_canSay_65 rfl (lv_at hl 4 rfl) ?_
        refine lv_iload_n hx hb dX5_canSay_66 rfl (lv_at hl 5 rfl) ?_
        refine lv_iconst (v := 1) hx hb dX5_canSay_67 (by decide) ?_
        obtain ⟨o25, ho25, hf⟩ := ob_el hf
        refine kcw_i (D := D) (va_runV (As := [.int p0, .int 1]) (rest := []) ⟨hx, hb, hml, hown, hts⟩ ((k_X5_manyOf l D K q vweight vkind vrhymes vpurse vhas vwishes vwishMany vsightLeft vsightRight vsightHow vsights vpad vpadMany vact vwho vwhich vwhom vacts vplace vopenMany vended vspoken vheaviest vheaviestWeight vhad vbadAct vbadWhy vbrings vbringsThen vkept visKept vkeptAt visWriting p0 (1) o25 ho25) H.size) (cwV 2 hts gX5_canSay_X5_manyOf rfl rfl rfl ⟨rfl, yd_X5_manyOf⟩ ⟨Nat.le_of_ble_eq_true rfl, Nat.le_of_ble_eq_true rfl⟩) (kPreV (ci := 5) (q0 := 0) hP rfl rfl hP hD hK hN) rfl rfl hl.1 rfl (lv_room (Nat.le_of_ble_eq_true rfl)) dX5_canSay_68 ⟨Nat.le_of_ble_eq_true rfl, Nat.le_of_ble_eq_true rfl⟩) hD hS hA (fun hzo25 H locs hP hD hS => ?_)
        have hP : va_P D vwCl (mdW K q vweight vkind vrhymes vpurse vhas vwishes vwishMany vsightLeft vsightRight vsightHow vsights vpad vpadMany vact vwho vwhich vwhom vacts vplace vopenMany vended vspoken vheaviest vheaviestWeight vhad vbadAct vbadWhy vbrings vbringsThen vkept visKept vkeptAt visWriting) H := hP
        have hD : va_D A (mdW K q vweight vkind vrhymes vpurse vhas vwishes vwishMany vsightLeft vsightRight vsightHow vsights vpad vpadMany vact vwho vwhich vwhom vacts vplace vopenMany vended vspoken vheaviest vheaviestWeight vhad vbadAct vbadWhy vbrings vbringsThen vkept visKept vkeptAt visWriting) := hD
        refine lv_iconst (v := 1) hx hb dX5_canSay_71 (by decide) ?_
        refine lv_icmp_lt (tgt := 89) hx hb dX5_canSay_72 (by decide) (fun c26 => ?_) (fun c26 => ?_)
        · rw [if_pos c26] at hf
          refine lv_iconst (v := 0) hx hb dX5_canSay_89 (by decide) ?_
          obtain rfl := Option.some.inj hf
          exact hret rfl rfl rfl hP hD hS dX5_canSay_90
        · rw [if_neg c26] at hf
          refine lv_iload hx hb dX5_canSay_75 (lv_at hl 1 rfl) ?_
          refine lv_if_ne (tgt := 85) hx hb dX5_canSay_77 (by decide) (fun c27 => ?_) (fun c27 => ?_)
          · exact absurd (by decide : (0 : Int32) = 0) c27
          · skip
            refine lv_iload hx hb dX5_canSay_80 (lv_at hl 0 rfl) ?_
            refine lv_if_eq (tgt := 89) hx hb dX5_canSay_82 (by decide) (fun c28 => ?_) (fun c28 => ?_)
            · skip
              refine lv_iconst (v := 0) hx hb dX5_canSay_89 (by decide) ?_
              obtain rfl := Option.some.inj hf
              exact hret rfl rfl rfl hP hD hS dX5_canSay_90
            · exact absurd (by decide : (0 : Int32) = 0) c28
      · rw [if_neg c24] at hf
        refine lv_iload_n hx hb dX5_canSay_45 rfl (lv_at hl 2 rfl) ?_
        refine lv_iconst (v := 2) hx hb dX5_canSay_46 (by decide) ?_
        refine lv_icmp_lt (tgt := 62) hx hb dX5_canSay_47 (by decide) (fun c29 => ?_) (fun c29 => ?_)
        · rw [if_pos c29] at hf
          refine lv_iconst (v := 0) hx hb dX5_canSay_62 (by decide) ?_
          refine lv_istore (lv' := [(6, .int 0), (5, .int 0), (4, .int o2), (3, .int o1), (0, .ref (q 0)), (1, .int p0), (2, .int p1)]) hx hb dX5_canSay_63 hl (by decide) rfl (fun ls hl => ?_)
          refine lv_aload_n hx hb dX5_canSay_65 rfl (lv_at hl 4 rfl) ?_
          refine lv_iload_n hx hb dX5_canSay_66 rfl (lv_at hl 5 rfl) ?_
          refine lv_iconst (v := 1) hx hb dX5_canSay_67 (by decide) ?_
          obtain ⟨o30, ho30, hf⟩ := ob_el hf
          refine kcw_i (D := D) (va_runV (As := [.int p0, .int 1]) (rest := []) ⟨hx, hb, hml, hown, hts⟩ ((k_X5_manyOf l D K q vweight vkind vrhymes vpurse vhas vwishes vwishMany vsightLeft vsightRight vsightHow vsights vpad vpadMany vact vwho vwhich vwhom vacts vplace vopenMany vended vspoken vheaviest vheaviestWeight vhad vbadAct vbadWhy vbrings vbringsThen vkept visKept vkeptAt visWriting p0 (1) o30 ho30) H.size) (cwV 2 hts gX5_canSay_X5_manyOf rfl rfl rfl ⟨rfl, yd_X5_manyOf⟩ ⟨Nat.le_of_ble_eq_true rfl, Nat.le_of_ble_eq_true rfl⟩) (kPreV (ci := 5) (q0 := 0) hP rfl rfl hP hD hK hN) rfl rfl hl.1 rfl (lv_room (Nat.le_of_ble_eq_true rfl)) dX5_canSay_68 ⟨Nat.le_of_ble_eq_true rfl, Nat.le_of_ble_eq_true rfl⟩) hD hS hA (fun hzo30 H locs hP hD hS => ?_)
          have hP : va_P D vwCl (mdW K q vweight vkind vrhymes vpurse vhas vwishes vwishMany vsightLeft vsightRight vsightHow vsights vpad vpadMany vact vwho vwhich vwhom vacts vplace vopenMany vended vspoken vheaviest vheaviestWeight vhad vbadAct vbadWhy vbrings vbringsThen vkept visKept vkeptAt visWriting) H := hP
          have hD : va_D A (mdW K q vweight vkind vrhymes vpurse vhas vwishes vwishMany vsightLeft vsightRight vsightHow vsights vpad vpadMany vact vwho vwhich vwhom vacts vplace vopenMany vended vspoken vheaviest vheaviestWeight vhad vbadAct vbadWhy vbrings vbringsThen vkept visKept vkeptAt visWriting) := hD
          refine lv_iconst (v := 1) hx hb dX5_canSay_71 (by decide) ?_
          refine lv_icmp_lt (tgt := 89) hx hb dX5_canSay_72 (by decide) (fun c31 => ?_) (fun c31 => ?_)
          · rw [if_pos c31] at hf
            refine lv_iconst (v := 0) hx hb dX5_canSay_89 (by decide) ?_
            obtain rfl := Option.some.inj hf
            exact hret rfl rfl rfl hP hD hS dX5_canSay_90
          · rw [if_neg c31] at hf
            refine lv_iload hx hb dX5_canSay_75 (lv_at hl 1 rfl) ?_
            refine lv_if_ne (tgt := 85) hx hb dX5_canSay_77 (by decide) (fun c32 => ?_) (fun c32 => ?_)
            · exact absurd (by decide : (0 : Int32) = 0) c32
            · skip
              refine lv_iload hx hb dX5_canSay_80 (lv_at hl 0 rfl) ?_
              refine lv_if_eq (tgt := 89) hx hb dX5_canSay_82 (by decide) (fun c33 => ?_) (fun c33 => ?_)
              · skip
                refine lv_iconst (v := 0) hx hb dX5_canSay_89 (by decide) ?_
                obtain rfl := Option.some.inj hf
                exact hret rfl rfl rfl hP hD hS dX5_canSay_90
              · exact absurd (by decide : (0 : Int32) = 0) c33
        · rw [if_neg c29] at hf
          refine lv_iload hx hb dX5_canSay_50 (lv_at hl 1 rfl) ?_
          refine lv_iload_n hx hb dX5_canSay_52 rfl (lv_at hl 5 rfl) ?_
          refine lv_iconst (v := 3) hx hb dX5_canSay_53 (by decide) ?_
          refine lv_isub hx hb dX5_canSay_54 ?_
          refine lv_icmp_lt (tgt := 62) hx hb dX5_canSay_55 (by decide) (fun c34 => ?_) (fun c34 => ?_)
          · rw [if_pos c34] at hf
            refine lv_iconst (v := 0) hx hb dX5_canSay_62 (by decide) ?_
            refine lv_istore (lv' := [(6, .int 0), (5, .int 0), (4, .int o2), (3, .int o1), (0, .ref (q 0)), (1, .int p0), (2, .int p1)]) hx hb dX5_canSay_63 hl (by decide) rfl (fun ls hl => ?_)
            refine lv_aload_n hx hb dX5_canSay_65 rfl (lv_at hl 4 rfl) ?_
            refine lv_iload_n hx hb dX5_canSay_66 rfl (lv_at hl 5 rfl) ?_
            refine lv_iconst (v := 1) hx hb dX5_canSay_67 (by decide) ?_
            obtain ⟨o35, ho35, hf⟩ := ob_el hf
            refine kcw_i (D := D) (va_runV (As := [.int p0, .int 1]) (rest := []) ⟨hx, hb, hml, hown, hts⟩ ((k_X5_manyOf l D K q vweight vkind vrhymes vpurse vhas vwishes vwishMany vsightLeft vsightRight vsightHow vsights vpad vpadMany vact vwho vwhich vwhom vacts vplace vopenMany vended vspoken vheaviest vheaviestWeight vhad vbadAct vbadWhy vbrings vbringsThen vkept visKept vkeptAt visWriting p0 (1) o35 ho35) H.size) (cwV 2 hts gX5_canSay_X5_manyOf rfl rfl rfl ⟨rfl, yd_X5_manyOf⟩ ⟨Nat.le_of_ble_eq_true rfl, Nat.le_of_ble_eq_true rfl⟩) (kPreV (ci := 5) (q0 := 0) hP rfl rfl hP hD hK hN) rfl rfl hl.1 rfl (lv_room (Nat.le_of_ble_eq_true rfl)) dX5_canSay_68 ⟨Nat.le_of_ble_eq_true rfl, Nat.le_of_ble_eq_true rfl⟩) hD hS hA (fun hzo35 H locs hP hD hS => ?_)
            have hP : va_P D vwCl (mdW K q vweight vkind vrhymes vpurse vhas vwishes vwishMany vsightLeft vsightRight vsightHow vsights vpad vpadMany vact vwho vwhich vwhom vacts vplace vopenMany vended vspoken vheaviest vheaviestWeight vhad vbadAct vbadWhy vbrings vbringsThen vkept visKept vkeptAt visWriting) H := hP
            have hD : va_D A (mdW K q vweight vkind vrhymes vpurse vhas vwishes vwishMany vsightLeft vsightRight vsightHow vsights vpad vpadMany vact vwho vwhich vwhom vacts vplace vopenMany vended vspoken vheaviest vheaviestWeight vhad vbadAct vbadWhy vbrings vbringsThen vkept visKept vkeptAt visWriting) := hD
            refine lv_iconst (v := 1) hx hb dX5_canSay_71 (by decide) ?_
            refine lv_icmp_lt (tgt := 89) hx hb dX5_canSay_72 (by decide) (fun c36 => ?_) (fun c36 => ?_)
            · rw [if_pos c36] at hf
              refine lv_iconst (v := 0) hx hb dX5_canSay_89 (by decide) ?_
              obtain rfl := Option.some.inj hf
              exact hret rfl rfl rfl hP hD hS dX5_canSay_90
            · rw [if_neg c36] at hf
              refine lv_iload hx hb dX5_canSay_75 (lv_at hl 1 rfl) ?_
              refine lv_if_ne (tgt := 85) hx hb dX5_canSay_77 (by decide) (fun c37 => ?_) (fun c37 => ?_)
              · exact absurd (by decide : (0 : Int32) = 0) c37
              · skip
                refine lv_iload hx hb dX5_canSay_80 (lv_at hl 0 rfl) ?_
                refine lv_if_eq (tgt := 89) hx hb dX5_canSay_82 (by decide) (fun c38 => ?_) (fun c38 => ?_)
                · skip
                  refine lv_iconst (v := 0) hx hb dX5_canSay_89 (by decide) ?_
                  obtain rfl := Option.some.inj hf
                  exact hret rfl rfl rfl hP hD hS dX5_canSay_90
                · exact absurd (by decide : (0 : Int32) = 0) c38
          · rw [if_neg c34] at hf
            refine lv_iconst (v := 1) hx hb dX5_canSay_58 (by decide) ?_
            refine lv_goto (tgt := 63) hx hb dX5_canSay_59 (by decide) ?_
            refine lv_istore (lv' := [(6, .int 1), (5, .int 0), (4, .int o2), (3, .int o1), (0, .ref (q 0)), (1, .int p0), (2, .int p1)]) hx hb dX5_canSay_63 hl (by decide) rfl (fun ls hl => ?_)
            refine lv_aload_n hx hb dX5_canSay_65 rfl (lv_at hl 4 rfl) ?_
            refine lv_iload_n hx hb dX5_canSay_66 rfl (lv_at hl 5 rfl) ?_
            refine lv_iconst (v := 1) hx hb dX5_canSay_67 (by decide) ?_
            obtain ⟨o39, ho39, hf⟩ := ob_el hf
            refine kcw_i (D := D) (va_runV (As := [.int p0, .int 1]) (rest := []) ⟨hx, hb, hml, hown, hts⟩ ((k_X5_manyOf l D K q vweight vkind vrhymes vpurse vhas vwishes vwishMany vsightLeft vsightRight vsightHow vsights vpad vpadMany vact vwho vwhich vwhom vacts vplace vopenMany vended vspoken vheaviest vheaviestWeight vhad vbadAct vbadWhy vbrings vbringsThen vkept visKept vkeptAt visWriting p0 (1) o39 ho39) H.size) (cwV 2 hts gX5_canSay_X5_manyOf rfl rfl rfl ⟨rfl, yd_X5_manyOf⟩ ⟨Nat.le_of_ble_eq_true rfl, Nat.le_of_ble_eq_true rfl⟩) (kPreV (ci := 5) (q0 := 0) hP rfl rfl hP hD hK hN) rfl rfl hl.1 rfl (lv_room (Nat.le_of_ble_eq_true rfl)) dX5_canSay_68 ⟨Nat.le_of_ble_eq_true rfl, Nat.le_of_ble_eq_true rfl⟩) hD hS hA (fun hzo39 H locs hP hD hS => ?_)
            have hP : va_P D vwCl (mdW K q vweight vkind vrhymes vpurse vhas vwishes vwishMany vsightLeft vsightRight vsightHow vsights vpad vpadMany vact vwho vwhich vwhom vacts vplace vopenMany vended vspoken vheaviest vheaviestWeight vhad vbadAct vbadWhy vbrings vbringsThen vkept visKept vkeptAt visWriting) H := hP
            have hD : va_D A (mdW K q vweight vkind vrhymes vpurse vhas vwishes vwishMany vsightLeft vsightRight vsightHow vsights vpad vpadMany vact vwho vwhich vwhom vacts vplace vopenMany vended vspoken vheaviest vheaviestWeight vhad vbadAct vbadWhy vbrings vbringsThen vkept visKept vkeptAt visWriting) := hD
            refine lv_iconst (v := 1) hx hb dX5_canSay_71 (by decide) ?_
            refine lv_icmp_lt (tgt := 89) hx hb dX5_canSay_72 (by decide) (fun c40 => ?_) (fun c40 => ?_)
            · rw [if_pos c40] at hf
              refine lv_iconst (v := 0) hx hb dX5_canSay_89 (by decide) ?_
              obtain rfl := Option.some.inj hf
              exact hret rfl rfl rfl hP hD hS dX5_canSay_90
            · rw [if_neg c40] at hf
              refine lv_iload hx hb dX5_canSay_75 (lv_at hl 1 rfl) ?_
              refine lv_if_ne (tgt := 85) hx hb dX5_canSay_77 (by decide) (fun c41 => ?_) (fun c41 => ?_)
              · exact absurd (by decide : (0 : Int32) = 0) c41
              · skip
                refine lv_iload hx hb dX5_canSay_80 (lv_at hl 0 rfl) ?_
                refine lv_if_eq (tgt := 89) hx hb dX5_canSay_82 (by decide) (fun c42 => ?_) (fun c42 => ?_)
                · exact absurd c42 (by decide : ¬ (1 : Int32) = 0)
                · skip
                  refine lv_iconst (v := 1) hx hb dX5_canSay_85 (by decide) ?_
                  refine lv_goto (tgt := 90) hx hb dX5_canSay_86 (by decide) ?_
                  obtain rfl := Option.some.inj hf
                  exact hret rfl rfl rfl hP hD hS dX5_canSay_90
    · rw [if_neg c23] at hf
      refine lv_iload hx hb dX5_canSay_25 (lv_at hl 0 rfl) ?_
      refine lv_iload_n hx hb dX5_canSay_27 rfl (lv_at hl 4 rfl) ?_
      refine lv_iconst (v := 2) hx hb dX5_canSay_28 (by decide) ?_
      refine lv_isub hx hb dX5_canSay_29 ?_
      refine lv_icmp_lt (tgt := 37) hx hb dX5_canSay_30 (by decide) (fun c43 => ?_) (fun c43 => ?_)
      · rw [if_pos c43] at hf
        refine lv_iconst (v := 0) hx hb dX5_canSay_37 (by decide) ?_
        refine lv_istore (lv' := [(5, .int 0), (4, .int o2), (3, .int o1), (0, .ref (q 0)), (1, .int p0), (2, .int p1)]) hx hb dX5_canSay_38 hl (by decide) rfl (fun ls hl => ?_)
        refine lv_iload_n hx hb dX5_canSay_40 rfl (lv_at hl 5 rfl) ?_
        refine lv_iconst (v := 3) hx hb dX5_canSay_41 (by decide) ?_
        refine lv_icmp_lt (tgt := 62) hx hb dX5_canSay_42 (by decide) (fun c44 => ?_) (fun c44 => ?_)
        · rw [if_pos c44] at hf
          refine lv_iconst (v := 0) hx hb dX5_canSay_62 (by decide) ?_
          refine lv_istore (lv' := [(6, .int 0), (5, .int 0), (4, .int o2), (3, .int o1), (0, .ref (q 0)), (1, .int p0), (2, .int p1)]) hx hb dX5_canSay_63 hl (by decide) rfl (fun ls hl => ?_)
          refine lv_aload_n hx hb dX5_canSay_65 rfl (lv_at hl 4 rfl) ?_
          refine lv_iload_n hx hb dX5_canSay_66 rfl (lv_at hl 5 rfl) ?_
          refine lv_iconst (v := 1) hx hb dX5_canSay_67 (by decide) ?_
          obtain ⟨o45, ho45, hf⟩ := ob_el hf
          refine kcw_i (D := D) (va_runV (As := [.int p0, .int 1]) (rest := []) ⟨hx, hb, hml, hown, hts⟩ ((k_X5_manyOf l D K q vweight vkind vrhymes vpurse vhas vwishes vwishMany vsightLeft vsightRight vsightHow vsights vpad vpadMany vact vwho vwhich vwhom vacts vplace vopenMany vended vspoken vheaviest vheaviestWeight vhad vbadAct vbadWhy vbrings vbringsThen vkept visKept vkeptAt visWriting p0 (1) o45 ho45) H.size) (cwV 2 hts gX5_canSay_X5_manyOf rfl rfl rfl ⟨rfl, yd_X5_manyOf⟩ ⟨Nat.le_of_ble_eq_true rfl, Nat.le_of_ble_eq_true rfl⟩) (kPreV (ci := 5) (q0 := 0) hP rfl rfl hP hD hK hN) rfl rfl hl.1 rfl (lv_room (Nat.le_of_ble_eq_true rfl)) dX5_canSay_68 ⟨Nat.le_of_ble_eq_true rfl, Nat.le_of_ble_eq_true rfl⟩) hD hS hA (fun hzo45 H locs hP hD hS => ?_)
          have hP : va_P D vwCl (mdW K q vweight vkind vrhymes vpurse vhas vwishes vwishMany vsightLeft vsightRight vsightHow vsights vpad vpadMany vact vwho vwhich vwhom vacts vplace vopenMany vended vspoken vheaviest vheaviestWeight vhad vbadAct vbadWhy vbrings vbringsThen vkept visKept vkeptAt visWriting) H := hP
          have hD : va_D A (mdW K q vweight vkind vrhymes vpurse vhas vwishes vwishMany vsightLeft vsightRight vsightHow vsights vpad vpadMany vact vwho vwhich vwhom vacts vplace vopenMany vended vspoken vheaviest vheaviestWeight vhad vbadAct vbadWhy vbrings vbringsThen vkept visKept vkeptAt visWriting) := hD
          refine lv_iconst (v := 1) hx hb dX5_canSay_71 (by decide) ?_
          refine lv_icmp_lt (tgt := 89) hx hb dX5_canSay_72 (by decide) (fun c46 => ?_) (fun c46 => ?_)
          · rw [if_pos c46] at hf
            refine lv_iconst (v := 0) hx hb dX5_canSay_89 (by decide) ?_
            obtain rfl := Option.some.inj hf
            exact hret rfl rfl rfl hP hD hS dX5_canSay_90
          · rw [if_neg c46] at hf
            refine lv_iload hx hb dX5_canSay_75 (lv_at hl 1 rfl) ?_
            refine lv_if_ne (tgt := 85) hx hb dX5_canSay_77 (by decide) (fun c47 => ?_) (fun c47 => ?_)
            · exact absurd (by decide : (0 : Int32) = 0) c47
            · skip
              refine lv_iload hx hb dX5_canSay_80 (lv_at hl 0 rfl) ?_
              refine lv_if_eq (tgt := 89) hx hb dX5_canSay_82 (by decide) (fun c48 => ?_) (fun c48 => ?_)
              · skip
                refine lv_iconst (v := 0) hx hb dX5_canSay_89 (by decide) ?_
                obtain rfl := Option.some.inj hf
                exact hret rfl rfl rfl hP hD hS dX5_canSay_90
              · exact absurd (by decide : (0 : Int32) = 0) c48
        · rw [if_neg c44] at hf
          refine lv_iload_n hx hb dX5_canSay_45 rfl (lv_at hl 2 rfl) ?_
          refine lv_iconst (v := 2) hx hb dX5_canSay_46 (by decide) ?_
          refine lv_icmp_lt (tgt := 62) hx hb dX5_canSay_47 (by decide) (fun c49 => ?_) (fun c49 => ?_)
          · rw [if_pos c49] at hf
            refine lv_iconst (v := 0) hx hb dX5_canSay_62 (by decide) ?_
            refine lv_istore (lv' := [(6, .int 0), (5, .int 0), (4, .int o2), (3, .int o1), (0, .ref (q 0)), (1, .int p0), (2, .int p1)]) hx hb dX5_canSay_63 hl (by decide) rfl (fun ls hl => ?_)
            refine lv_aload_n hx hb dX5_canSay_65 rfl (lv_at hl 4 rfl) ?_
            refine lv_iload_n hx hb dX5_canSay_66 rfl (lv_at hl 5 rfl) ?_
            refine lv_iconst (v := 1) hx hb dX5_canSay_67 (by decide) ?_
            obtain ⟨o50, ho50, hf⟩ := ob_el hf
            refine kcw_i (D := D) (va_runV (As := [.int p0, .int 1]) (rest := []) ⟨hx, hb, hml, hown, hts⟩ ((k_X5_manyOf l D K q vweight vkind vrhymes vpurse vhas vwishes vwishMany vsightLeft vsightRight vsightHow vsights vpad vpadMany vact vwho vwhich vwhom vacts vplace vopenMany vended vspoken vheaviest vheaviestWeight vhad vbadAct vbadWhy vbrings vbringsThen vkept visKept vkeptAt visWriting p0 (1) o50 ho50) H.size) (cwV 2 hts gX5_canSay_X5_manyOf rfl rfl rfl ⟨rfl, yd_X5_manyOf⟩ ⟨Nat.le_of_ble_eq_true rfl, Nat.le_of_ble_eq_true rfl⟩) (kPreV (ci := 5) (q0 := 0) hP rfl rfl hP hD hK hN) rfl rfl hl.1 rfl (lv_room (Nat.le_of_ble_eq_true rfl)) dX5_canSay_68 ⟨Nat.le_of_ble_eq_true rfl, Nat.le_of_ble_eq_true rfl⟩) hD hS hA (fun hzo50 H locs hP hD hS => ?_)
            have hP : va_P D vwCl (mdW K q vweight vkind vrhymes vpurse vhas vwishes vwishMany vsightLeft vsightRight vsightHow vsights vpad vpadMany vact vwho vwhich vwhom vacts vplace vopenMany vended vspoken vheaviest vheaviestWeight vhad vbadAct vbadWhy vbrings vbringsThen vkept visKept vkeptAt visWriting) H := hP
            have hD : va_D A (mdW K q vweight vkind vrhymes vpurse vhas vwishes vwishMany vsightLeft vsightRight vsightHow vsights vpad vpadMany vact vwho vwhich vwhom vacts vplace vopenMany vended vspoken vheaviest vheaviestWeight vhad vbadAct vbadWhy vbrings vbringsThen vkept visKept vkeptAt visWriting) := hD
            refine lv_iconst (v := 1) hx hb dX5_canSay_71 (by decide) ?_
            refine lv_icmp_lt (tgt := 89) hx hb dX5_canSay_72 (by decide) (fun c51 => ?_) (fun c51 => ?_)
            · rw [if_pos c51] at hf
              refine lv_iconst (v := 0) hx hb dX5_canSay_89 (by decide) ?_
              obtain rfl := Option.some.inj hf
              exact hret rfl rfl rfl hP hD hS dX5_canSay_90
            · rw [if_neg c51] at hf
              refine lv_iload hx hb dX5_canSay_75 (lv_at hl 1 rfl) ?_
              refine lv_if_ne (tgt := 85) hx hb dX5_canSay_77 (by decide) (fun c52 => ?_) (fun c52 => ?_)
              · exact absurd (by decide : (0 : Int32) = 0) c52
              · skip
                refine lv_iload hx hb dX5_canSay_80 (lv_at hl 0 rfl) ?_
                refine lv_if_eq (tgt := 89) hx hb dX5_canSay_82 (by decide) (fun c53 => ?_) (fun c53 => ?_)
                · skip
                  refine lv_iconst (v := 0) hx hb dX5_canSay_89 (by decide) ?_
                  obtain rfl := Option.some.inj hf
                  exact hret rfl rfl rfl hP hD hS dX5_canSay_90
                · exact absurd (by decide : (0 : Int32) = 0) c53
          · rw [if_neg c49] at hf
            refine lv_iload hx hb dX5_canSay_50 (lv_at hl 1 rfl) ?_
            refine lv_iload_n hx hb dX5_canSay_52 rfl (lv_at hl 5 rfl) ?_
            refine lv_iconst (v := 3) hx hb dX5_canSay_53 (by decide) ?_
            refine lv_isub hx hb dX5_canSay_54 ?_
            refine lv_icmp_lt (tgt := 62) hx hb dX5_canSay_55 (by decide) (fun c54 => ?_) (fun c54 => ?_)
            · rw [if_pos c54] at hf
              refine lv_iconst (v := 0) hx hb dX5_canSay_62 (by decide) ?_
              refine lv_istore (lv' := [(6, .int 0), (5, .int 0), (4, .int o2), (3, .int o1), (0, .ref (q 0)), (1, .int p0), (2, .int p1)]) hx hb dX5_canSay_63 hl (by decide) rfl (fun ls hl => ?_)
              refine lv_aload_n hx hb dX5_canSay_65 rfl (lv_at hl 4 rfl) ?_
              refine lv_iload_n hx hb dX5_canSay_66 rfl (lv_at hl 5 rfl) ?_
              refine lv_iconst (v := 1) hx hb dX5_canSay_67 (by decide) ?_
              obtain ⟨o55, ho55, hf⟩ := ob_el hf
              refine kcw_i (D := D) (va_runV (As := [.int p0, .int 1]) (rest := []) ⟨hx, hb, hml, hown, hts⟩ ((k_X5_manyOf l D K q vweight vkind vrhymes vpurse vhas vwishes vwishMany vsightLeft vsightRight vsightHow vsights vpad vpadMany vact vwho vwhich vwhom vacts vplace vopenMany vended vspoken vheaviest vheaviestWeight vhad vbadAct vbadWhy vbrings vbringsThen vkept visKept vkeptAt visWriting p0 (1) o55 ho55) H.size) (cwV 2 hts gX5_canSay_X5_manyOf rfl rfl rfl ⟨rfl, yd_X5_manyOf⟩ ⟨Nat.le_of_ble_eq_true rfl, Nat.le_of_ble_eq_true rfl⟩) (kPreV (ci := 5) (q0 := 0) hP rfl rfl hP hD hK hN) rfl rfl hl.1 rfl (lv_room (Nat.le_of_ble_eq_true rfl)) dX5_canSay_68 ⟨Nat.le_of_ble_eq_true rfl, Nat.le_of_ble_eq_true rfl⟩) hD hS hA (fun hzo55 H locs hP hD hS => ?_)
              have hP : va_P D vwCl (mdW K q vweight vkind vrhymes vpurse vhas vwishes vwishMany vsightLeft vsightRight vsightHow vsights vpad vpadMany vact vwho vwhich vwhom vacts vplace vopenMany vended vspoken vheaviest vheaviestWeight vhad vbadAct vbadWhy vbrings vbringsThen vkept visKept vkeptAt visWriting) H := hP
              have hD : va_D A (mdW K q vweight vkind vrhymes vpurse vhas vwishes vwishMany vsightLeft vsightRight vsightHow vsights vpad vpadMany vact vwho vwhich vwhom vacts vplace vopenMany vended vspoken vheaviest vheaviestWeight vhad vbadAct vbadWhy vbrings vbringsThen vkept visKept vkeptAt visWriting) := hD
              refine lv_iconst (v := 1) hx hb dX5_canSay_71 (by decide) ?_
              refine lv_icmp_lt (tgt := 89) hx hb dX5_canSay_72 (by decide) (fun c56 => ?_) (fun c56 => ?_)
              · rw [if_pos c56] at hf
                refine lv_iconst (v := 0) hx hb dX5_canSay_89 (by decide) ?_
                obtain rfl := Option.some.inj hf
                exact hret rfl rfl rfl hP hD hS dX5_canSay_90
              · rw [if_neg c56] at hf
                refine lv_iload hx hb dX5_canSay_75 (lv_at hl 1 rfl) ?_
                refine lv_if_ne (tgt := 85) hx hb dX5_canSay_77 (by decide) (fun c57 => ?_) (fun c57 => ?_)
                · exact absurd (by decide : (0 : Int32) = 0) c57
                · skip
                  refine lv_iload hx hb dX5_canSay_80 (lv_at hl 0 rfl) ?_
                  refine lv_if_eq (tgt := 89) hx hb dX5_canSay_82 (by decide) (fun c58 => ?_) (fun c58 => ?_)
                  · skip
                    refine lv_iconst (v := 0) hx hb dX5_canSay_89 (by decide) ?_
                    obtain rfl := Option.some.inj hf
                    exact hret rfl rfl rfl hP hD hS dX5_canSay_90
                  · exact absurd (by decide : (0 : Int32) = 0) c58
            · rw [if_neg c54] at hf
              refine lv_iconst (v := 1) hx hb dX5_canSay_58 (by decide) ?_
              refine lv_goto (tgt := 63) hx hb dX5_canSay_59 (by decide) ?_
              refine lv_istore (lv' := [(6, .int 1), (5, .int 0), (4, .int o2), (3, .int o1), (0, .ref (q 0)), (1, .int p0), (2, .int p1)]) hx hb dX5_canSay_63 hl (by decide) rfl (fun ls hl => ?_)
              refine lv_aload_n hx hb dX5_canSay_65 rfl (lv_at hl 4 rfl) ?_
              refine lv_iload_n hx hb dX5_canSay_66 rfl (lv_at hl 5 rfl) ?_
              refine lv_iconst (v := 1) hx hb dX5_canSay_67 (by decide) ?_
              obtain ⟨o59, ho59, hf⟩ := ob_el hf
              refine kcw_i (D := D) (va_runV (As := [.int p0, .int 1]) (rest := []) ⟨hx, hb, hml, hown, hts⟩ ((k_X5_manyOf l D K q vweight vkind vrhymes vpurse vhas vwishes vwishMany vsightLeft vsightRight vsightHow vsights vpad vpadMany vact vwho vwhich vwhom vacts vplace vopenMany vended vspoken vheaviest vheaviestWeight vhad vbadAct vbadWhy vbrings vbringsThen vkept visKept vkeptAt visWriting p0 (1) o59 ho59) H.size) (cwV 2 hts gX5_canSay_X5_manyOf rfl rfl rfl ⟨rfl, yd_X5_manyOf⟩ ⟨Nat.le_of_ble_eq_true rfl, Nat.le_of_ble_eq_true rfl⟩) (kPreV (ci := 5) (q0 := 0) hP rfl rfl hP hD hK hN) rfl rfl hl.1 rfl (lv_room (Nat.le_of_ble_eq_true rfl)) dX5_canSay_68 ⟨Nat.le_of_ble_eq_true rfl, Nat.le_of_ble_eq_true rfl⟩) hD hS hA (fun hzo59 H locs hP hD hS => ?_)
              have hP : va_P D vwCl (mdW K q vweight vkind vrhymes vpurse vhas vwishes vwishMany vsightLeft vsightRight vsightHow vsights vpad vpadMany vact vwho vwhich vwhom vacts vplace vopenMany vended vspoken vheaviest vheaviestWeight vhad vbadAct vbadWhy vbrings vbringsThen vkept visKept vkeptAt visWriting) H := hP
              have hD : va_D A (mdW K q vweight vkind vrhymes vpurse vhas vwishes vwishMany vsightLeft vsightRight vsightHow vsights vpad vpadMany vact vwho vwhich vwhom vacts vplace vopenMany vended vspoken vheaviest vheaviestWeight vhad vbadAct vbadWhy vbrings vbringsThen vkept visKept vkeptAt visWriting) := hD
              refine lv_iconst (v := 1) hx hb dX5_canSay_71 (by decide) ?_
              refine lv_icmp_lt (tgt := 89) hx hb dX5_canSay_72 (by decide) (fun c60 => ?_) (fun c60 => ?_)
              · rw [if_pos c60] at hf
                refine lv_iconst (v := 0) hx hb dX5_canSay_89 (by decide) ?_
                obtain rfl := Option.some.inj hf
                exact hret rfl rfl rfl hP hD hS dX5_canSay_90
              · rw [if_neg c60] at hf
                refine lv_iload hx hb dX5_canSay_75 (lv_at hl 1 rfl) ?_
                refine lv_if_ne (tgt := 85) hx hb dX5_canSay_77 (by decide) (fun c61 => ?_) (fun c61 => ?_)
                · exact absurd (by decide : (0 : Int32) = 0) c61
                · skip
                  refine lv_iload hx hb dX5_canSay_80 (lv_at hl 0 rfl) ?_
                  refine lv_if_eq (tgt := 89) hx hb dX5_canSay_82 (by decide) (fun c62 => ?_) (fun c62 => ?_)
                  · exact absurd c62 (by decide : ¬ (1 : Int32) = 0)
                  · skip
                    refine lv_iconst (v := 1) hx hb dX5_canSay_85 (by decide) ?_
                    refine lv_goto (tgt := 90) hx hb dX5_canSay_86 (by decide) ?_
                    obtain rfl := Option.some.inj hf
                    exact hret rfl rfl rfl hP hD hS dX5_canSay_90
      · rw [if_neg c43] at hf
        refine lv_iconst (v := 1) hx hb dX5_canSay_33 (by decide) ?_
        refine lv_goto (tgt := 38) hx hb dX5_canSay_34 (by decide) ?_
        refine lv_istore (lv' := [(5, .int 1), (4, .int o2), (3, .int o1), (0, .ref (q 0)), (1, .int p0), (2, .int p1)]) hx hb dX5_canSay_38 hl (by decide) rfl (fun ls hl => ?_)
        refine lv_iload_n hx hb dX5_canSay_40 rfl (lv_at hl 5 rfl) ?_
        refine lv_iconst (v := 3) hx hb dX5_canSay_41 (by decide) ?_
        refine lv_icmp_lt (tgt := 62) hx hb dX5_canSay_42 (by decide) (fun c63 => ?_) (fun c63 => ?_)
        · rw [if_pos c63] at hf
          refine lv_iconst (v := 0) hx hb dX5_canSay_62 (by decide) ?_
          refine lv_istore (lv' := [(6, .int 0), (5, .int 1), (4, .int o2), (3, .int o1), (0, .ref (q 0)), (1, .int p0), (2, .int p1)]) hx hb dX5_canSay_63 hl (by decide) rfl (fun ls hl => ?_)
          refine lv_aload_n hx hb dX5_canSay_65 rfl (lv_at hl 4 rfl) ?_
          refine lv_iload_n hx hb dX5_canSay_66 rfl (lv_at hl 5 rfl) ?_
          refine lv_iconst (v := 1) hx hb dX5_canSay_67 (by decide) ?_
          obtain ⟨o64, ho64, hf⟩ := ob_el hf
          refine kcw_i (D := D) (va_runV (As := [.int p0, .int 1]) (rest := []) ⟨hx, hb, hml, hown, hts⟩ ((k_X5_manyOf l D K q vweight vkind vrhymes vpurse vhas vwishes vwishMany vsightLeft vsightRight vsightHow vsights vpad vpadMany vact vwho vwhich vwhom vacts vplace vopenMany vended vspoken vheaviest vheaviestWeight vhad vbadAct vbadWhy vbrings vbringsThen vkept visKept vkeptAt visWriting p0 (1) o64 ho64) H.size) (cwV 2 hts gX5_canSay_X5_manyOf rfl rfl rfl ⟨rfl, yd_X5_manyOf⟩ ⟨Nat.le_of_ble_eq_true rfl, Nat.le_of_ble_eq_true rfl⟩) (kPreV (ci := 5) (q0 := 0) hP rfl rfl hP hD hK hN) rfl rfl hl.1 rfl (lv_room (Nat.le_of_ble_eq_true rfl)) dX5_canSay_68 ⟨Nat.le_of_ble_eq_true rfl, Nat.le_of_ble_eq_true rfl⟩) hD hS hA (fun hzo64 H locs hP hD hS => ?_)
          have hP : va_P D vwCl (mdW K q vweight vkind vrhymes vpurse vhas vwishes vwishMany vsightLeft vsightRight vsightHow vsights vpad vpadMany vact vwho vwhich vwhom vacts vplace vopenMany vended vspoken vheaviest vheaviestWeight vhad vbadAct vbadWhy vbrings vbringsThen vkept visKept vkeptAt visWriting) H := hP
          have hD : va_D A (mdW K q vweight vkind vrhymes vpurse vhas vwishes vwishMany vsightLeft vsightRight vsightHow vsights vpad vpadMany vact vwho vwhich vwhom vacts vplace vopenMany vended vspoken vheaviest vheaviestWeight vhad vbadAct vbadWhy vbrings vbringsThen vkept visKept vkeptAt visWriting) := hD
          refine lv_iconst (v := 1) hx hb dX5_canSay_71 (by decide) ?_
          refine lv_icmp_lt (tgt := 89) hx hb dX5_canSay_72 (by decide) (fun c65 => ?_) (fun c65 => ?_)
          · rw [if_pos c65] at hf
            refine lv_iconst (v := 0) hx hb dX5_canSay_89 (by decide) ?_
            obtain rfl := Option.some.inj hf
            exact hret rfl rfl rfl hP hD hS dX5_canSay_90
          · rw [if_neg c65] at hf
            refine lv_iload hx hb dX5_canSay_75 (lv_at hl 1 rfl) ?_
            refine lv_if_ne (tgt := 85) hx hb dX5_canSay_77 (by decide) (fun c66 => ?_) (fun c66 => ?_)
            · skip
              refine lv_iconst (v := 1) hx hb dX5_canSay_85 (by decide) ?_
              refine lv_goto (tgt := 90) hx hb dX5_canSay_86 (by decide) ?_
              obtain rfl := Option.some.inj hf
              exact hret rfl rfl rfl hP hD hS dX5_canSay_90
            · exact absurd c66 (by decide : ¬ (1 : Int32) = 0)
        · rw [if_neg c63] at hf
          refine lv_iload_n hx hb dX5_canSay_45 rfl (lv_at hl 2 rfl) ?_
          refine lv_iconst (v := 2) hx hb dX5_canSay_46 (by decide) ?_
          refine lv_icmp_lt (tgt := 62) hx hb dX5_canSay_47 (by decide) (fun c67 => ?_) (fun c67 => ?_)
          · rw [if_pos c67] at hf
            refine lv_iconst (v := 0) hx hb dX5_canSay_62 (by decide) ?_
            refine lv_istore (lv' := [(6, .int 0), (5, .int 1), (4, .int o2), (3, .int o1), (0, .ref (q 0)), (1, .int p0), (2, .int p1)]) hx hb dX5_canSay_63 hl (by decide) rfl (fun ls hl => ?_)
            refine lv_aload_n hx hb dX5_canSay_65 rfl (lv_at hl 4 rfl) ?_
            refine lv_iload_n hx hb dX5_canSay_66 rfl (lv_at hl 5 rfl) ?_
            refine lv_iconst (v := 1) hx hb dX5_canSay_67 (by decide) ?_
            obtain ⟨o68, ho68, hf⟩ := ob_el hf
            refine kcw_i (D := D) (va_runV (As := [.int p0, .int 1]) (rest := []) ⟨hx, hb, hml, hown, hts⟩ ((k_X5_manyOf l D K q vweight vkind vrhymes vpurse vhas vwishes vwishMany vsightLeft vsightRight vsightHow vsights vpad vpadMany vact vwho vwhich vwhom vacts vplace vopenMany vended vspoken vheaviest vheaviestWeight vhad vbadAct vbadWhy vbrings vbringsThen vkept visKept vkeptAt visWriting p0 (1) o68 ho68) H.size) (cwV 2 hts gX5_canSay_X5_manyOf rfl rfl rfl ⟨rfl, yd_X5_manyOf⟩ ⟨Nat.le_of_ble_eq_true rfl, Nat.le_of_ble_eq_true rfl⟩) (kPreV (ci := 5) (q0 := 0) hP rfl rfl hP hD hK hN) rfl rfl hl.1 rfl (lv_room (Nat.le_of_ble_eq_true rfl)) dX5_canSay_68 ⟨Nat.le_of_ble_eq_true rfl, Nat.le_of_ble_eq_true rfl⟩) hD hS hA (fun hzo68 H locs hP hD hS => ?_)
            have hP : va_P D vwCl (mdW K q vweight vkind vrhymes vpurse vhas vwishes vwishMany vsightLeft vsightRight vsightHow vsights vpad vpadMany vact vwho vwhich vwhom vacts vplace vopenMany vended vspoken vheaviest vheaviestWeight vhad vbadAct vbadWhy vbrings vbringsThen vkept visKept vkeptAt visWriting) H := hP
            have hD : va_D A (mdW K q vweight vkind vrhymes vpurse vhas vwishes vwishMany vsightLeft vsightRight vsightHow vsights vpad vpadMany vact vwho vwhich vwhom vacts vplace vopenMany vended vspoken vheaviest vheaviestWeight vhad vbadAct vbadWhy vbrings vbringsThen vkept visKept vkeptAt visWriting) := hD
            refine lv_iconst (v := 1) hx hb dX5_canSay_71 (by decide) ?_
            refine lv_icmp_lt (tgt := 89) hx hb dX5_canSay_72 (by decide) (fun c69 => ?_) (fun c69 => ?_)
            · rw [if_pos c69] at hf
              refine lv_iconst (v := 0) hx hb dX5_canSay_89 (by decide) ?_
              obtain rfl := Option.some.inj hf
              exact hret rfl rfl rfl hP hD hS dX5_canSay_90
            · rw [if_neg c69] at hf
              refine lv_iload hx hb dX5_canSay_75 (lv_at hl 1 rfl) ?_
              refine lv_if_ne (tgt := 85) hx hb dX5_canSay_77 (by decide) (fun c70 => ?_) (fun c70 => ?_)
              · skip
                refine lv_iconst (v := 1) hx hb dX5_canSay_85 (by decide) ?_
                refine lv_goto (tgt := 90) hx hb dX5_canSay_86 (by decide) ?_
                obtain rfl := Option.some.inj hf
                exact hret rfl rfl rfl hP hD hS dX5_canSay_90
              · exact absurd c70 (by decide : ¬ (1 : Int32) = 0)
          · rw [if_neg c67] at hf
            refine lv_iload hx hb dX5_canSay_50 (lv_at hl 1 rfl) ?_
            refine lv_iload_n hx hb dX5_canSay_52 rfl (lv_at hl 5 rfl) ?_
            refine lv_iconst (v := 3) hx hb dX5_canSay_53 (by decide) ?_
            refine lv_isub hx hb dX5_canSay_54 ?_
            refine lv_icmp_lt (tgt := 62) hx hb dX5_canSay_55 (by decide) (fun c71 => ?_) (fun c71 => ?_)
            · rw [if_pos c71] at hf
              refine lv_iconst (v := 0) hx hb dX5_canSay_62 (by decide) ?_
              refine lv_istore (lv' := [(6, .int 0), (5, .int 1), (4, .int o2), (3, .int o1), (0, .ref (q 0)), (1, .int p0), (2, .int p1)]) hx hb dX5_canSay_63 hl (by decide) rfl (fun ls hl => ?_)
              refine lv_aload_n hx hb dX5_canSay_65 rfl (lv_at hl 4 rfl) ?_
              refine lv_iload_n hx hb dX5_canSay_66 rfl (lv_at hl 5 rfl) ?_
              refine lv_iconst (v := 1) hx hb dX5_canSay_67 (by decide) ?_
              obtain ⟨o72, ho72, hf⟩ := ob_el hf
              refine kcw_i (D := D) (va_runV (As := [.int p0, .int 1]) (rest := []) ⟨hx, hb, hml, hown, hts⟩ ((k_X5_manyOf l D K q vweight vkind vrhymes vpurse vhas vwishes vwishMany vsightLeft vsightRight vsightHow vsights vpad vpadMany vact vwho vwhich vwhom vacts vplace vopenMany vended vspoken vheaviest vheaviestWeight vhad vbadAct vbadWhy vbrings vbringsThen vkept visKept vkeptAt visWriting p0 (1) o72 ho72) H.size) (cwV 2 hts gX5_canSay_X5_manyOf rfl rfl rfl ⟨rfl, yd_X5_manyOf⟩ ⟨Nat.le_of_ble_eq_true rfl, Nat.le_of_ble_eq_true rfl⟩) (kPreV (ci := 5) (q0 := 0) hP rfl rfl hP hD hK hN) rfl rfl hl.1 rfl (lv_room (Nat.le_of_ble_eq_true rfl)) dX5_canSay_68 ⟨Nat.le_of_ble_eq_true rfl, Nat.le_of_ble_eq_true rfl⟩) hD hS hA (fun hzo72 H locs hP hD hS => ?_)
              have hP : va_P D vwCl (mdW K q vweight vkind vrhymes vpurse vhas vwishes vwishMany vsightLeft vsightRight vsightHow vsights vpad vpadMany vact vwho vwhich vwhom vacts vplace vopenMany vended vspoken vheaviest vheaviestWeight vhad vbadAct vbadWhy vbrings vbringsThen vkept visKept vkeptAt visWriting) H := hP
              have hD : va_D A (mdW K q vweight vkind vrhymes vpurse vhas vwishes vwishMany vsightLeft vsightRight vsightHow vsights vpad vpadMany vact vwho vwhich vwhom vacts vplace vopenMany vended vspoken vheaviest vheaviestWeight vhad vbadAct vbadWhy vbrings vbringsThen vkept visKept vkeptAt visWriting) := hD
              refine lv_iconst (v := 1) hx hb dX5_canSay_71 (by decide) ?_
              refine lv_icmp_lt (tgt := 89) hx hb dX5_canSay_72 (by decide) (fun c73 => ?_) (fun c73 => ?_)
              · rw [if_pos c73] at hf
                refine lv_iconst (v := 0) hx hb dX5_canSay_89 (by decide) ?_
                obtain rfl := Option.some.inj hf
                exact hret rfl rfl rfl hP hD hS dX5_canSay_90
              · rw [if_neg c73] at hf
                refine lv_iload hx hb dX5_canSay_75 (lv_at hl 1 rfl) ?_
                refine lv_if_ne (tgt := 85) hx hb dX5_canSay_77 (by decide) (fun c74 => ?_) (fun c74 => ?_)
                · skip
                  refine lv_iconst (v := 1) hx hb dX5_canSay_85 (by decide) ?_
                  refine lv_goto (tgt := 90) hx hb dX5_canSay_86 (by decide) ?_
                  obtain rfl := Option.some.inj hf
                  exact hret rfl rfl rfl hP hD hS dX5_canSay_90
                · exact absurd c74 (by decide : ¬ (1 : Int32) = 0)
            · rw [if_neg c71] at hf
              refine lv_iconst (v := 1) hx hb dX5_canSay_58 (by decide) ?_
              refine lv_goto (tgt := 63) hx hb dX5_canSay_59 (by decide) ?_
              refine lv_istore (lv' := [(6, .int 1), (5, .int 1), (4, .int o2), (3, .int o1), (0, .ref (q 0)), (1, .int p0), (2, .int p1)]) hx hb dX5_canSay_63 hl (by decide) rfl (fun ls hl => ?_)
              refine lv_aload_n hx hb dX5_canSay_65 rfl (lv_at hl 4 rfl) ?_
              refine lv_iload_n hx hb dX5_canSay_66 rfl (lv_at hl 5 rfl) ?_
              refine lv_iconst (v := 1) hx hb dX5_canSay_67 (by decide) ?_
              obtain ⟨o75, ho75, hf⟩ := ob_el hf
              refine kcw_i (D := D) (va_runV (As := [.int p0, .int 1]) (rest := []) ⟨hx, hb, hml, hown, hts⟩ ((k_X5_manyOf l D K q vweight vkind vrhymes vpurse vhas vwishes vwishMany vsightLeft vsightRight vsightHow vsights vpad vpadMany vact vwho vwhich vwhom vacts vplace vopenMany vended vspoken vheaviest vheaviestWeight vhad vbadAct vbadWhy vbrings vbringsThen vkept visKept vkeptAt visWriting p0 (1) o75 ho75) H.size) (cwV 2 hts gX5_canSay_X5_manyOf rfl rfl rfl ⟨rfl, yd_X5_manyOf⟩ ⟨Nat.le_of_ble_eq_true rfl, Nat.le_of_ble_eq_true rfl⟩) (kPreV (ci := 5) (q0 := 0) hP rfl rfl hP hD hK hN) rfl rfl hl.1 rfl (lv_room (Nat.le_of_ble_eq_true rfl)) dX5_canSay_68 ⟨Nat.le_of_ble_eq_true rfl, Nat.le_of_ble_eq_true rfl⟩) hD hS hA (fun hzo75 H locs hP hD hS => ?_)
              have hP : va_P D vwCl (mdW K q vweight vkind vrhymes vpurse vhas vwishes vwishMany vsightLeft vsightRight vsightHow vsights vpad vpadMany vact vwho vwhich vwhom vacts vplace vopenMany vended vspoken vheaviest vheaviestWeight vhad vbadAct vbadWhy vbrings vbringsThen vkept visKept vkeptAt visWriting) H := hP
              have hD : va_D A (mdW K q vweight vkind vrhymes vpurse vhas vwishes vwishMany vsightLeft vsightRight vsightHow vsights vpad vpadMany vact vwho vwhich vwhom vacts vplace vopenMany vended vspoken vheaviest vheaviestWeight vhad vbadAct vbadWhy vbrings vbringsThen vkept visKept vkeptAt visWriting) := hD
              refine lv_iconst (v := 1) hx hb dX5_canSay_71 (by decide) ?_
              refine lv_icmp_lt (tgt := 89) hx hb dX5_canSay_72 (by decide) (fun c76 => ?_) (fun c76 => ?_)
              · rw [if_pos c76] at hf
                refine lv_iconst (v := 0) hx hb dX5_canSay_89 (by decide) ?_
                obtain rfl := Option.some.inj hf
                exact hret rfl rfl rfl hP hD hS dX5_canSay_90
              · rw [if_neg c76] at hf
                refine lv_iload hx hb dX5_canSay_75 (lv_at hl 1 rfl) ?_
                refine lv_if_ne (tgt := 85) hx hb dX5_canSay_77 (by decide) (fun c77 => ?_) (fun c77 => ?_)
                · skip
                  refine lv_iconst (v := 1) hx hb dX5_canSay_85 (by decide) ?_
                  refine lv_goto (tgt := 90) hx hb dX5_canSay_86 (by decide) ?_
                  obtain rfl := Option.some.inj hf
                  exact hret rfl rfl rfl hP hD hS dX5_canSay_90
                · exact absurd c77 (by decide : ¬ (1 : Int32) = 0)
def s_X5_pool_44 (vhas : Nat → Int32) (x31_l4 : Int32) (x : Int32 × Int32) : Option ((Int32 × Int32) ⊕ (Int32 × Int32)) := if 4 ≤ x.2 then (some (.inr (x.1, x.2))) else (if ((x31_l4 >>> (x.2 &&& 31)) &&& 1) = 1 then (chk x.2 4 (some (.inl ((x.1 ||| (vhas (x.2).toNatClampNeg)), (x.2 + 1))))) else (some (.inl ((x.1 ||| 0), (x.2 + 1)))))
def s_X5_pool_31 (vkind : Nat → Int32) (vhas : Nat → Int32) (p0 : Int32) (x : Int32 × Int32) : Option ((Int32 × Int32) ⊕ (Int32 × Int32)) := if 16 ≤ x.2 then (some (.inr (x.1, x.2))) else (ob (wh (s_X5_pool_44 vhas x.2) 5000 (0, 0)) (fun r10 => ob (f_X5_canSay vkind r10.1 p0) (fun o11 => if o11 = 0 then (some (.inl (x.1, (x.2 + 1)))) else (if x.1 < 0 then (some (.inl (x.2, (x.2 + 1)))) else (ob (f_X5_ones x.2) (fun o14 => ob (f_X5_ones x.1) (fun o15 => if o15 ≤ o14 then (some (.inl (x.1, (x.2 + 1)))) else (some (.inl (x.2, (x.2 + 1)))))))))))
def f_X5_pool (vkind : Nat → Int32) (vhas : Nat → Int32) (p0 : Int32) (p1 : Int32) : Option (Int32) := bd (f_X5_in p0.toInt64 (1) (8)) (fun o1 => if o1 = 0 then (some (-2)) else (bd (f_X5_in p1.toInt64 (0) (1)) (fun o3 => if o3 = 0 then (some (-2)) else (ob (wh (s_X5_pool_31 vkind vhas p0) 5000 ((-6), 1)) (fun r5 => if r5.1 < 0 then (some r5.1) else (if p1 = 1 then (some r5.1) else (ob (f_X5_ones r5.1) (fun o8 => some o8))))))))
theorem inX5_pool_X5 : ∀ w ∈ wsX50, w ∈ wsX5_pool := fun w h => List.mem_cons_of_mem _ (List.mem_append_right _ h)
theorem yd_X5_pool : yX5_pool.cls ≠ "java/lang/invoke/MethodHandle" ∧ yX5_pool.cls ≠ "java/lang/invoke/VarHandle" ∧ (parseMethodDescriptor yX5_pool.desc).map (fun d => d.parameters.length) = some 2 := by decide +kernel
abbrev rmX5_pool : Room := { frames := 2, cells := 0, slots := 0, locals := 50 }
set_option maxHeartbeats 4000000 in
set_option maxRecDepth 100000 in
theorem k_X5_pool (l : Launch) (D : va_G) (K : Nat → ClassId) (q : Nat → Nat) (vweight : Nat → Int32) (vkind : Nat → Int32) (vrhymes : Nat → Int32) (vpurse : Nat → Int32) (vhas : Nat → Int32) (vwishes : Nat → Int32) (vwishMany : Int32) (vsightLeft : Nat → Int32) (vsightRight : Nat → Int32) (vsightHow : Nat → Int32) (vsights : Int32) (vpad : Nat → Int32) (vpadMany : Int32) (vact : Nat → Int32) (vwho : Nat → Int32) (vwhich : Nat → Int32) (vwhom : Nat → Int32) (vacts : Int32) (vplace : Int32) (vopenMany : Int32) (vended : Int32) (vspoken : Int32) (vheaviest : Int32) (vheaviestWeight : Int32) (vhad : Nat → Int32) (vbadAct : Int32) (vbadWhy : Int32) (vbrings : Nat → Int64) (vbringsThen : Nat → Int64) (vkept : Nat → Int32) (visKept : Nat → Int32) (vkeptAt : Int32) (visWriting : Int32) (p0 : Int32) (p1 : Int32) (out : Int32) (hf : f_X5_pool vkind vhas p0 p1 = some out) : kI l D K .int yX5_pool wsX5_pool rmX5_pool [.ref (q 0), .int p0, .int p1] (mdW K q vweight vkind vrhymes vpurse vhas vwishes vwishMany vsightLeft vsightRight vsightHow vsights vpad vpadMany vact vwho vwhich vwhom vacts vplace vopenMany vended vspoken vheaviest vheaviestWeight vhad vbadAct vbadWhy vbrings vbringsThen vkept visKept vkeptAt visWriting) out (mdW K q vweight vkind vrhymes vpurse vhas vwishes vwishMany vsightLeft vsightRight vsightHow vsights vpad vpadMany vact vwho vwhich vwhom vacts vplace vopenMany vended vspoken vheaviest vheaviestWeight vhad vbadAct vbadWhy vbrings vbringsThen vkept visKept vkeptAt visWriting) := by
  refine kI.of (cc := cX5_pool) (maxL := 7) (by decide) rfl (Nat.le_of_ble_eq_true rfl) ?_
  intro p e s m args below meth c A H0 Q ls hx hb hml hown hts hK hN hA hP hD hS hl hret
  have hown : s.vm.findClass RX5 = some m.cls := hown
  have hl : lv_has ls 7 [(0, .ref (q 0)), (1, .int p0), (2, .int p1)] := hl
  generalize hH : H0 = H at hP ⊢
  have hS : va_S A H0 H [] := by rw [← hH]; exact hS
  clear hH
  unfold f_X5_pool at hf
  refine lv_iload_n hx hb dX5_pool_0 rfl (lv_at hl 1 rfl) ?_
  refine lv_i2l (v := p0.toInt64) hx hb dX5_pool_1 rfl ?_
  refine lv_lconst (v := 1) hx hb dX5_pool_2 (by decide) ?_
  refine lv_ldc2 hx hb hown (hts (.constantLong RX5 198 (8)) (List.mem_of_getElem? (i := 1) rfl)) dX5_pool_3 ?_
  obtain ⟨o1, ho1, hf⟩ := bd_el hf
  refine kc0_i (D := D) (va_runS (As := [.long p0.toInt64, .long 1, .long 8]) (rest := []) ⟨hx, hb, hml, hown, hts⟩ ((k_X5_in l D K p0.toInt64 (1) (8) o1 ho1) H.size) (va_cwS 3 hts gX5_pool_X5_in rfl rfl rfl yd_X5_in ⟨Nat.le_of_ble_eq_true rfl, Nat.le_of_ble_eq_true rfl⟩) (kPreS va_P_nil (va_D_nil (A := fun _ => True)) hK hN) rfl rfl hl.1 rfl (lv_room (Nat.le_of_ble_eq_true rfl)) dX5_pool_6 ⟨Nat.le_of_ble_eq_true rfl, Nat.le_of_ble_eq_true rfl⟩) hP hS hA (fun hzo1 H locs hP hS => ?_)
  refine lv_if_eq (tgt := 22) hx hb dX5_pool_9 (by decide) (fun c2 => ?_) (fun c2 => ?_)
  · rw [if_pos c2] at hf
    refine lv_bipush (v := (-2)) hx hb dX5_pool_22 (by decide) ?_
    obtain rfl := Option.some.inj hf
    exact hret rfl rfl rfl hP hD hS dX5_pool_24
  · rw [if_neg c2] at hf
    refine lv_iload_n hx hb dX5_pool_12 rfl (lv_at hl 2 rfl) ?_
    refine lv_i2l (v := p1.toInt64) hx hb dX5_pool_13 rfl ?_
    refine lv_lconst (v := 0) hx hb dX5_pool_14 (by decide) ?_
    refine lv_lconst (v := 1) hx hb dX5_pool_15 (by decide) ?_
    obtain ⟨o3, ho3, hf⟩ := bd_el hf
    refine kc0_i (D := D) (va_runS (As := [.long p1.toInt64, .long 0, .long 1]) (rest := []) ⟨hx, hb, hml, hown, hts⟩ ((k_X5_in l D K p1.toInt64 (0) (1) o3 ho3) H.size) (va_cwS 3 hts gX5_pool_X5_in rfl rfl rfl yd_X5_in ⟨Nat.le_of_ble_eq_true rfl, Nat.le_of_ble_eq_true rfl⟩) (kPreS va_P_nil (va_D_nil (A := fun _ => True)) hK hN) rfl rfl hl.1 rfl (lv_room (Nat.le_of_ble_eq_true rfl)) dX5_pool_16 ⟨Nat.le_of_ble_eq_true rfl, Nat.le_of_ble_eq_true rfl⟩) hP hS hA (fun hzo3 H locs hP hS => ?_)
    refine lv_if_ne (tgt := 25) hx hb dX5_pool_19 (by decide) (fun c4 => ?_) (fun c4 => ?_)
    · rw [if_neg c4] at hf
      refine lv_bipush (v := (-6)) hx hb dX5_pool_25 (by decide) ?_
      refine lv_istore_n (lv' := [(3, .int (-6)), (0, .ref (q 0)), (1, .int p0), (2, .int p1)]) hx hb dX5_pool_27 rfl hl (by decide) rfl (fun ls hl => ?_)
      refine lv_iconst (v := 1) hx hb dX5_pool_28 (by decide) ?_
      refine lv_istore (lv' := [(4, .int 1), (3, .int (-6)), (0, .ref (q 0)), (1, .int p0), (2, .int p1)]) hx hb dX5_pool_29 hl (by decide) rfl (fun ls hl => ?_)
      obtain ⟨r5, hr5, hf⟩ := ob_el hf
      have post31 : ∀ (e31_l3 : Int32) (e31_l4 : Int32) (H : Heap) (locs : List Loc) (ls : Array Slot), (if e31_l3 < 0 then (some e31_l3) else (if p1 = 1 then (some e31_l3) else (ob (f_X5_ones e31_l3) (fun o8 => some o8)))) = some out → va_P D vwCl (mdW K q vweight vkind vrhymes vpurse vhas vwishes vwishMany vsightLeft vsightRight vsightHow vsights vpad vpadMany vact vwho vwhich vwhom vacts vplace vopenMany vended vspoken vheaviest vheaviestWeight vhad vbadAct vbadWhy vbrings vbringsThen vkept visKept vkeptAt visWriting) H → va_D A (mdW K q vweight vkind vrhymes vpurse vhas vwishes vwishMany vsightLeft vsightRight vsightHow vsights vpad vpadMany vact vwho vwhich vwhom vacts vplace vopenMany vended vspoken vheaviest vheaviestWeight vhad vbadAct vbadWhy vbrings vbringsThen vkept visKept vkeptAt visWriting) → va_S A H0 H locs → lv_has ls 7 [(4, .int e31_l4), (3, .int e31_l3), (0, .ref (q 0)), (1, .int p0), (2, .int p1)] → W p l e rmX5_pool s m args below meth c H locs 0 0 Q (F0 m 122 ls []) := by
        intro e31_l3 e31_l4 H locs ls hf hP hD hS hl
        refine lv_iload_n hx hb dX5_pool_122 rfl (lv_at hl 1 rfl) ?_
        refine lv_if_lt (tgt := 131) hx hb dX5_pool_123 (by decide) (fun c6 => ?_) (fun c6 => ?_)
        · rw [if_pos c6] at hf
          refine lv_iload_n hx hb dX5_pool_131 rfl (lv_at hl 1 rfl) ?_
          refine lv_goto (tgt := 139) hx hb dX5_pool_132 (by decide) ?_
          obtain rfl := Option.some.inj hf
          exact hret rfl rfl rfl hP hD hS dX5_pool_139
        · rw [if_neg c6] at hf
          refine lv_iload_n hx hb dX5_pool_126 rfl (lv_at hl 4 rfl) ?_
          refine lv_iconst (v := 1) hx hb dX5_pool_127 (by decide) ?_
          refine lv_icmp_ne (tgt := 135) hx hb dX5_pool_128 (by decide) (fun c7 => ?_) (fun c7 => ?_)
          · rw [if_neg c7] at hf
            refine lv_iload_n hx hb dX5_pool_135 rfl (lv_at hl 1 rfl) ?_
            obtain ⟨o8, ho8, hf⟩ := ob_el hf
            refine kc0_i (D := D) (va_runS (As := [.int e31_l3]) (rest := []) ⟨hx, hb, hml, hown, hts⟩ ((k_X5_ones l D K e31_l3 o8 ho8) H.size) (va_cwS 1 hts gX5_pool_X5_ones rfl rfl rfl yd_X5_ones ⟨Nat.le_of_ble_eq_true rfl, Nat.le_of_ble_eq_true rfl⟩) (kPreS va_P_nil (va_D_nil (A := fun _ => True)) hK hN) rfl rfl hl.1 rfl (lv_room (Nat.le_of_ble_eq_true rfl)) dX5_pool_136 ⟨Nat.le_of_ble_eq_true rfl, Nat.le_of_ble_eq_true rfl⟩) hP hS hA (fun hzo8 H locs hP hS => ?_)
            obtain rfl := Option.some.inj hf
            exact hret rfl rfl rfl hP hD hS dX5_pool_139
          · rw [if_pos c7] at hf
            refine lv_iload_n hx hb dX5_pool_131 rfl (lv_at hl 1 rfl) ?_
            refine lv_goto (tgt := 139) hx hb dX5_pool_132 (by decide) ?_
            obtain rfl := Option.some.inj hf
            exact hret rfl rfl rfl hP hD hS dX5_pool_139
      have lp31 : ∀ (fu : Nat) (x31_l3 : Int32) (x31_l4 : Int32) (H : Heap) (locs : List Loc) (ls : Array Slot), wh (s_X5_pool_31 vkind vhas p0) fu (x31_l3, x31_l4) = some r5 → va_P D vwCl (mdW K q vweight vkind vrhymes vpurse vhas vwishes vwishMany vsightLeft vsightRight vsightHow vsights vpad vpadMany vact vwho vwhich vwhom vacts vplace vopenMany vended vspoken vheaviest vheaviestWeight vhad vbadAct vbadWhy vbrings vbringsThen vkept visKept vkeptAt visWriting) H → va_D A (mdW K q vweight vkind vrhymes vpurse vhas vwishes vwishMany vsightLeft vsightRight vsightHow vsights vpad vpadMany vact vwho vwhich vwhom vacts vplace vopenMany vended vspoken vheaviest vheaviestWeight vhad vbadAct vbadWhy vbrings vbringsThen vkept visKept vkeptAt visWriting) → va_S A H0 H locs → lv_has ls 7 [(4, .int x31_l4), (3, .int x31_l3), (0, .ref (q 0)), (1, .int p0), (2, .int p1)] → W p l e rmX5_pool s m args below meth c H locs 0 0 Q (F0 m 31 ls []) := by
        intro fu
        induction fu with
        | zero => intro x31_l3 x31_l4 H locs ls hw31; cases hw31
        | succ fu ih31 =>
          intro x31_l3 x31_l4 H locs ls hw31 hP hD hS hl
          obtain ⟨o31_, hs31, hw31⟩ := wh_el hw31
          unfold s_X5_pool_31 at hs31
          dsimp only at hs31
          refine lv_iload hx hb dX5_pool_31 (lv_at hl 0 rfl) ?_
          refine lv_bipush (v := 16) hx hb dX5_pool_33 (by decide) ?_
          refine lv_icmp_ge (tgt := 122) hx hb dX5_pool_35 (by decide) (fun c9 => ?_) (fun c9 => ?_)
          · rw [if_pos c9] at hs31
            obtain rfl := Option.some.inj hs31
            have e9 := Option.some.inj hw31
            rw [← e9] at hf
            exact post31 _ _ _ _ _ hf hP hD hS (lv_sub hl [0, 1, 2, 3, 4] rfl)
          · rw [if_neg c9] at hs31
            refine lv_iconst (v := 0) hx hb dX5_pool_38 (by decide) ?_
            refine lv_istore (lv' := [(5, .int 0), (4, .int x31_l4), (3, .int x31_l3), (0, .ref (q 0)), (1, .int p0), (2, .int p1)]) hx hb dX5_pool_39 hl (by decide) rfl (fun ls hl => ?_)
            refine lv_iconst (v := 0) hx hb dX5_pool_41 (by decide) ?_
            refine lv_istore (lv' := [(6, .int 0), (5, .int 0), (4, .int x31_l4), (3, .int x31_l3), (0, .ref (q 0)), (1, .int p0), (2, .int p1)]) hx hb dX5_pool_42 hl (by decide) rfl (fun ls hl => ?_)
            obtain ⟨r10, hr10, hs31⟩ := ob_el hs31
            have post44 : ∀ (e44_l5 : Int32) (e44_l6 : Int32) (H : Heap) (locs : List Loc) (ls : Array Slot), (ob (f_X5_canSay vkind e44_l5 p0) (fun o11 => if o11 = 0 then (some (.inl (x31_l3, (x31_l4 + 1)))) else (if x31_l3 < 0 then (some (.inl (x31_l4, (x31_l4 + 1)))) else (ob (f_X5_ones x31_l4) (fun o14 => ob (f_X5_ones x31_l3) (fun o15 => if o15 ≤ o14 then (some (.inl (x31_l3, (x31_l4 + 1)))) else (some (.inl (x31_l4, (x31_l4 + 1)))))))))) = some o31_ → va_P D vwCl (mdW K q vweight vkind vrhymes vpurse vhas vwishes vwishMany vsightLeft vsightRight vsightHow vsights vpad vpadMany vact vwho vwhich vwhom vacts vplace vopenMany vended vspoken vheaviest vheaviestWeight vhad vbadAct vbadWhy vbrings vbringsThen vkept visKept vkeptAt visWriting) H → va_D A (mdW K q vweight vkind vrhymes vpurse vhas vwishes vwishMany vsightLeft vsightRight vsightHow vsights vpad vpadMany vact vwho vwhich vwhom vacts vplace vopenMany vended vspoken vheaviest vheaviestWeight vhad vbadAct vbadWhy vbrings vbringsThen vkept visKept vkeptAt visWriting) → va_S A H0 H locs → lv_has ls 7 [(6, .int e44_l6), (5, .int e44_l5), (4, .int x31_l4), (3, .int x31_l3), (0, .ref (q 0)), (1, .int p0), (2, .int p1)] → W p l e rmX5_pool s m args below meth c H locs 0 0 Q (F0 m 83 ls []) := by
              intro e44_l5 e44_l6 H locs ls hs31 hP hD hS hl
              refine lv_aload_n hx hb dX5_pool_83 rfl (lv_at hl 4 rfl) ?_
              refine lv_iload hx hb dX5_pool_84 (lv_at hl 1 rfl) ?_
              refine lv_iload_n hx hb dX5_pool_86 rfl (lv_at hl 5 rfl) ?_
              obtain ⟨o11, ho11, hs31⟩ := ob_el hs31
              refine kcw_i (D := D) (va_runV (As := [.int e44_l5, .int p0]) (rest := []) ⟨hx, hb, hml, hown, hts⟩ ((k_X5_canSay l D K q vweight vkind vrhymes vpurse vhas vwishes vwishMany vsightLeft vsightRight vsightHow vsights vpad vpadMany vact vwho vwhich vwhom vacts vplace vopenMany vended vspoken vheaviest vheaviestWeight vhad vbadAct vbadWhy vbrings vbringsThen vkept visKept vkeptAt visWriting e44_l5 p0 o11 ho11) H.size) (cwV 2 hts gX5_pool_X5_canSay rfl rfl rfl ⟨rfl, yd_X5_canSay⟩ ⟨Nat.le_of_ble_eq_true rfl, Nat.le_of_ble_eq_true rfl⟩) (kPreV (ci := 5) (q0 := 0) hP rfl rfl hP hD hK hN) rfl rfl hl.1 rfl (lv_room (Nat.le_of_ble_eq_true rfl)) dX5_pool_87 ⟨Nat.le_of_ble_eq_true rfl, Nat.le_of_ble_eq_true rfl⟩) hD hS hA (fun hzo11 H locs hP hD hS => ?_)
              have hP : va_P D vwCl (mdW K q vweight vkind vrhymes vpurse vhas vwishes vwishMany vsightLeft vsightRight vsightHow vsights vpad vpadMany vact vwho vwhich vwhom vacts vplace vopenMany vended vspoken vheaviest vheaviestWeight vhad vbadAct vbadWhy vbrings vbringsThen vkept visKept vkeptAt visWriting) H := hP
              have hD : va_D A (mdW K q vweight vkind vrhymes vpurse vhas vwishes vwishMany vsightLeft vsightRight vsightHow vsights vpad vpadMany vact vwho vwhich vwhom vacts vplace vopenMany vended vspoken vheaviest vheaviestWeight vhad vbadAct vbadWhy vbrings vbringsThen vkept visKept vkeptAt visWriting) := hD
              refine lv_if_eq (tgt := 114) hx hb dX5_pool_90 (by decide) (fun c12 => ?_) (fun c12 => ?_)
              · rw [if_pos c12] at hs31
                refine lv_iload_n hx hb dX5_pool_114 rfl (lv_at hl 3 rfl) ?_
                refine lv_istore_n (lv' := [(3, .int x31_l3), (6, .int e44_l6), (5, .int e44_l5), (4, .int x31_l4), (0, .ref (q 0)), (1, .int p0), (2, .int p1)]) hx hb dX5_pool_115 rfl hl (by decide) rfl (fun ls hl => ?_)
                refine lv_iinc (v := (x31_l4 + 1)) (lv' := [(4, .int (x31_l4 + 1)), (3, .int x31_l3), (6, .int e44_l6), (5, .int e44_l5), (0, .ref (q 0)), (1, .int p0), (2, .int p1)]) hx hb dX5_pool_116 hl (k := 3) rfl (by rfl) (by decide) rfl (fun ls hl => ?_)
                refine lv_goto (tgt := 31) hx hb dX5_pool_119 (by decide) ?_
                obtain rfl := Option.some.inj hs31
                exact ih31 _ _ _ _ _ hw31 hP hD hS (lv_sub hl [0, 1, 4, 5, 6] rfl)
              · rw [if_neg c12] at hs31
                refine lv_iload_n hx hb dX5_pool_93 rfl (lv_at hl 3 rfl) ?_
                refine lv_if_lt (tgt := 109) hx hb dX5_pool_94 (by decide) (fun c13 => ?_) (fun c13 => ?_)
                · rw [if_pos c13] at hs31
                  refine lv_iload hx hb dX5_pool_109 (lv_at hl 2 rfl) ?_
                  refine lv_goto (tgt := 115) hx hb dX5_pool_111 (by decide) ?_
                  refine lv_istore_n (lv' := [(3, .int x31_l4), (6, .int e44_l6), (5, .int e44_l5), (4, .int x31_l4), (0, .ref (q 0)), (1, .int p0), (2, .int p1)]) hx hb dX5_pool_115 rfl hl (by decide) rfl (fun ls hl => ?_)
                  refine lv_iinc (v := (x31_l4 + 1)) (lv' := [(4, .int (x31_l4 + 1)), (3, .int x31_l4), (6, .int e44_l6), (5, .int e44_l5), (0, .ref (q 0)), (1, .int p0), (2, .int p1)]) hx hb dX5_pool_116 hl (k := 3) rfl (by rfl) (by decide) rfl (fun ls hl => ?_)
                  refine lv_goto (tgt := 31) hx hb dX5_pool_119 (by decide) ?_
                  obtain rfl := Option.some.inj hs31
                  exact ih31 _ _ _ _ _ hw31 hP hD hS (lv_sub hl [0, 1, 4, 5, 6] rfl)
                · rw [if_neg c13] at hs31
                  refine lv_iload hx hb dX5_pool_97 (lv_at hl 2 rfl) ?_
                  obtain ⟨o14, ho14, hs31⟩ := ob_el hs31
                  refine kc0_i (D := D) (va_runS (As := [.int x31_l4]) (rest := []) ⟨hx, hb, hml, hown, hts⟩ ((k_X5_ones l D K x31_l4 o14 ho14) H.size) (va_cwS 1 hts gX5_pool_X5_ones rfl rfl rfl yd_X5_ones ⟨Nat.le_of_ble_eq_true rfl, Nat.le_of_ble_eq_true rfl⟩) (kPreS va_P_nil (va_D_nil (A := fun _ => True)) hK hN) rfl rfl hl.1 rfl (lv_room (Nat.le_of_ble_eq_true rfl)) dX5_pool_99 ⟨Nat.le_of_ble_eq_true rfl, Nat.le_of_ble_eq_true rfl⟩) hP hS hA (fun hzo14 H locs hP hS => ?_)
                  refine lv_iload_n hx hb dX5_pool_102 rfl (lv_at hl 3 rfl) ?_
                  obtain ⟨o15, ho15, hs31⟩ := ob_el hs31
                  refine kc0_i (D := D) (va_runS (As := [.int x31_l3]) (rest := [.int o14]) ⟨hx, hb, hml, hown, hts⟩ ((k_X5_ones l D K x31_l3 o15 ho15) H.size) (va_cwS 1 hts gX5_pool_X5_ones rfl rfl rfl yd_X5_ones ⟨Nat.le_of_ble_eq_true rfl, Nat.le_of_ble_eq_true rfl⟩) (kPreS va_P_nil (va_D_nil (A := fun _ => True)) hK hN) rfl rfl hl.1 rfl (lv_room (Nat.le_of_ble_eq_true rfl)) dX5_pool_103 ⟨Nat.le_of_ble_eq_true rfl, Nat.le_of_ble_eq_true rfl⟩) hP hS hA (fun hzo15 H locs hP hS => ?_)
                  refine lv_icmp_ge (tgt := 114) hx hb dX5_pool_106 (by decide) (fun c16 => ?_) (fun c16 => ?_)
                  · rw [if_pos c16] at hs31
                    refine lv_iload_n hx hb dX5_pool_114 rfl (lv_at hl 3 rfl) ?_
                    refine lv_istore_n (lv' := [(3, .int x31_l3), (6, .int e44_l6), (5, .int e44_l5), (4, .int x31_l4), (0, .ref (q 0)), (1, .int p0), (2, .int p1)]) hx hb dX5_pool_115 rfl hl (by decide) rfl (fun ls hl => ?_)
                    refine lv_iinc (v := (x31_l4 + 1)) (lv' := [(4, .int (x31_l4 + 1)), (3, .int x31_l3), (6, .int e44_l6), (5, .int e44_l5), (0, .ref (q 0)), (1, .int p0), (2, .int p1)]) hx hb dX5_pool_116 hl (k := 3) rfl (by rfl) (by decide) rfl (fun ls hl => ?_)
                    refine lv_goto (tgt := 31) hx hb dX5_pool_119 (by decide) ?_
                    obtain rfl := Option.some.inj hs31
                    exact ih31 _ _ _ _ _ hw31 hP hD hS (lv_sub hl [0, 1, 4, 5, 6] rfl)
                  · rw [if_neg c16] at hs31
                    refine lv_iload hx hb dX5_pool_109 (lv_at hl 2 rfl) ?_
                    refine lv_goto (tgt := 115) hx hb dX5_pool_111 (by decide) ?_
                    refine lv_istore_n (lv' := [(3, .int x31_l4), (6, .int e44_l6), (5, .int e44_l5), (4, .int x31_l4), (0, .ref (q 0)), (1, .int p0), (2, .int p1)]) hx hb dX5_pool_115 rfl hl (by decide) rfl (fun ls hl => ?_)
                    refine lv_iinc (v := (x31_l4 + 1)) (lv' := [(4, .int (x31_l4 + 1)), (3, .int x31_l4), (6, .int e44_l6), (5, .int e44_l5), (0, .ref (q 0)), (1, .int p0), (2, .int p1)]) hx hb dX5_pool_116 hl (k := 3) rfl (by rfl) (by decide) rfl (fun ls hl => ?_)
                    refine lv_goto (tgt := 31) hx hb dX5_pool_119 (by decide) ?_
                    obtain rfl := Option.some.inj hs31
                    exact ih31 _ _ _ _ _ hw31 hP hD hS (lv_sub hl [0, 1, 4, 5, 6] rfl)
            have lp44 : ∀ (fu : Nat) (x44_l5 : Int32) (x44_l6 : Int32) (H : Heap) (locs : List Loc) (ls : Array Slot), wh (s_X5_pool_44 vhas x31_l4) fu (x44_l5, x44_l6) = some r10 → va_P D vwCl (mdW K q vweight vkind vrhymes vpurse vhas vwishes vwishMany vsightLeft vsightRight vsightHow vsights vpad vpadMany vact vwho vwhich vwhom vacts vplace vopenMany vended vspoken vheaviest vheaviestWeight vhad vbadAct vbadWhy vbrings vbringsThen vkept visKept vkeptAt visWriting) H → va_D A (mdW K q vweight vkind vrhymes vpurse vhas vwishes vwishMany vsightLeft vsightRight vsightHow vsights vpad vpadMany vact vwho vwhich vwhom vacts vplace vopenMany vended vspoken vheaviest vheaviestWeight vhad vbadAct vbadWhy vbrings vbringsThen vkept visKept vkeptAt visWriting) → va_S A H0 H locs → lv_has ls 7 [(6, .int x44_l6), (5, .int x44_l5), (4, .int x31_l4), (3, .int x31_l3), (0, .ref (q 0)), (1, .int p0), (2, .int p1)] → W p l e rmX5_pool s m args below meth c H locs 0 0 Q (F0 m 44 ls []) := by
              intro fu
              induction fu with
              | zero => intro x44_l5 x44_l6 H locs ls hw44; cases hw44
              | succ fu ih44 =>
                intro x44_l5 x44_l6 H locs ls hw44 hP hD hS hl
                obtain ⟨o44_, hs44, hw44⟩ := wh_el hw44
                unfold s_X5_pool_44 at hs44
                dsimp only at hs44
                refine lv_iload hx hb dX5_pool_44 (lv_at hl 0 rfl) ?_
                refine lv_iconst (v := 4) hx hb dX5_pool_46 (by decide) ?_
                refine lv_icmp_ge (tgt := 83) hx hb dX5_pool_47 (by decide) (fun c17 => ?_) (fun c17 => ?_)
                · rw [if_pos c17] at hs44
                  obtain rfl := Option.some.inj hs44
                  have e9 := Option.some.inj hw44
                  rw [← e9] at hs31
                  exact post44 _ _ _ _ _ hs31 hP hD hS (lv_sub hl [0, 1, 2, 3, 4, 5, 6] rfl)
                · rw [if_neg c17] at hs44
                  refine lv_iload hx hb dX5_pool_50 (lv_at hl 1 rfl) ?_
                  refine lv_iload hx hb dX5_pool_52 (lv_at hl 2 rfl) ?_
                  refine lv_iload hx hb dX5_pool_54 (lv_at hl 0 rfl) ?_
                  refine lv_ishr hx hb dX5_pool_56 ?_
                  refine lv_iconst (v := 1) hx hb dX5_pool_57 (by decide) ?_
                  refine lv_iand hx hb dX5_pool_58 ?_
                  refine lv_iconst (v := 1) hx hb dX5_pool_59 (by decide) ?_
                  refine lv_icmp_ne (tgt := 73) hx hb dX5_pool_60 (by decide) (fun c18 => ?_) (fun c18 => ?_)
                  · rw [if_neg c18] at hs44
                    refine lv_iconst (v := 0) hx hb dX5_pool_73 (by decide) ?_
                    refine lv_ior hx hb dX5_pool_74 ?_
                    refine lv_istore (lv' := [(5, .int (x44_l5 ||| 0)), (6, .int x44_l6), (4, .int x31_l4), (3, .int x31_l3), (0, .ref (q 0)), (1, .int p0), (2, .int p1)]) hx hb dX5_pool_75 hl (by decide) rfl (fun ls hl => ?_)
                    refine lv_iinc (v := (x44_l6 + 1)) (lv' := [(6, .int (x44_l6 + 1)), (5, .int (x44_l5 ||| 0)), (4, .int x31_l4), (3, .int x31_l3), (0, .ref (q 0)), (1, .int p0), (2, .int p1)]) hx hb dX5_pool_77 hl (k := 1) rfl (by rfl) (by decide) rfl (fun ls hl => ?_)
                    refine lv_goto (tgt := 44) hx hb dX5_pool_80 (by decide) ?_
                    obtain rfl := Option.some.inj hs44
                    exact ih44 _ _ _ _ _ hw44 hP hD hS (lv_sub hl [0, 1, 2, 3, 4, 5, 6] rfl)
                  · rw [if_pos c18] at hs44
                    refine lv_aload_n hx hb dX5_pool_63 rfl (lv_at hl 4 rfl) ?_
                    refine va_get (D := D) (ci := 5) (v := .ref (q 5)) (C := RX5) (T := TX5) (N := 33) hx hb hts inX5_pool_X5 hown hK hP 0 rfl rfl 4 (by decide) (hts (.fieldLink RX5 22 "WordScalesModel" "has" "[I") (List.mem_of_getElem? (i := 2) rfl)) (fun _ h9 => h9) rfl dX5_pool_64 ?_
                    refine lv_iload hx hb dX5_pool_67 (lv_at hl 0 rfl) ?_
                    obtain ⟨v19, hs44⟩ := chk_el hs44
                    refine va_iald (D := D) (f := vhas) hx hb hK hP 5 0 rfl rfl v19 dX5_pool_69 ?_
                    refine lv_goto (tgt := 74) hx hb dX5_pool_70 (by decide) ?_
                    refine lv_ior hx hb dX5_pool_74 ?_
                    refine lv_istore (lv' := [(5, .int (x44_l5 ||| (vhas (x44_l6).toNatClampNeg))), (6, .int x44_l6), (4, .int x31_l4), (3, .int x31_l3), (0, .ref (q 0)), (1, .int p0), (2, .int p1)]) hx hb dX5_pool_75 hl (by decide) rfl (fun ls hl => ?_)
                    refine lv_iinc (v := (x44_l6 + 1)) (lv' := [(6, .int (x44_l6 + 1)), (5, .int (x44_l5 ||| (vhas (x44_l6).toNatClampNeg))), (4, .int x31_l4), (3, .int x31_l3), (0, .ref (q 0)), (1, .int p0), (2, .int p1)]) hx hb dX5_pool_77 hl (k := 1) rfl (by rfl) (by decide) rfl (fun ls hl => ?_)
                    refine lv_goto (tgt := 44) hx hb dX5_pool_80 (by decide) ?_
                    obtain rfl := Option.some.inj hs44
                    exact ih44 _ _ _ _ _ hw44 hP hD hS (lv_sub hl [0, 1, 2, 3, 4, 5, 6] rfl)
            exact lp44 5000 _ _ _ _ _ hr10 hP hD hS (lv_sub hl [0, 1, 2, 3, 4, 5, 6] rfl)
      exact lp31 5000 _ _ _ _ _ hr5 hP hD hS (lv_sub hl [0, 1, 2, 3, 4] rfl)
    · rw [if_pos c4] at hf
      refine lv_bipush (v := (-2)) hx hb dX5_pool_22 (by decide) ?_
      obtain rfl := Option.some.inj hf
      exact hret rfl rfl rfl hP hD hS dX5_pool_24
def f_X5_wish (vwishes : Nat → Int32) (vwishMany : Int32) (p0 : Int32) : Option (Int32 × (Nat → Int32) × Int32) := bd (f_X5_in p0.toInt64 (0) (4095)) (fun o1 => if o1 = 0 then (some ((-2), vwishes, vwishMany)) else (if vwishMany = 8 then (some ((-4), vwishes, vwishMany)) else (chk vwishMany 8 (some ((vwishMany + 1), (upd vwishes (vwishMany).toNatClampNeg p0), (vwishMany + 1))))))
theorem inX5_wish_X5 : ∀ w ∈ wsX50, w ∈ wsX5_wish := fun w h => List.mem_cons_of_mem _ (List.mem_append_right _ h)
theorem yd_X5_wish : yX5_wish.cls ≠ "java/lang/invoke/MethodHandle" ∧ yX5_wish.cls ≠ "java/lang/invoke/VarHandle" ∧ (parseMethodDescriptor yX5_wish.desc).map (fun d => d.parameters.length) = some 1 := by decide +kernel
abbrev rmX5_wish : Room := { frames := 1, cells := 0, slots := 0, locals := 25 }
set_option maxHeartbeats 4000000 in
set_option maxRecDepth 100000 in
theorem k_X5_wish (l : Launch) (D : va_G) (K : Nat → ClassId) (q : Nat → Nat) (vweight : Nat → Int32) (vkind : Nat → Int32) (vrhymes : Nat → Int32) (vpurse : Nat → Int32) (vhas : Nat → Int32) (vwishes : Nat → Int32) (vwishMany : Int32) (vsightLeft : Nat → Int32) (vsightRight : Nat → Int32) (vsightHow : Nat → Int32) (vsights : Int32) (vpad : Nat → Int32) (vpadMany : Int32) (vact : Nat → Int32) (vwho : Nat → Int32) (vwhich : Nat → Int32) (vwhom : Nat → Int32) (vacts : Int32) (vplace : Int32) (vopenMany : Int32) (vended : Int32) (vspoken : Int32) (vheaviest : Int32) (vheaviestWeight : Int32) (vhad : Nat → Int32) (vbadAct : Int32) (vbadWhy : Int32) (vbrings : Nat → Int64) (vbringsThen : Nat → Int64) (vkept : Nat → Int32) (visKept : Nat → Int32) (vkeptAt : Int32) (visWriting : Int32) (p0 : Int32) (out : Int32 × (Nat → Int32) × Int32) (hf : f_X5_wish vwishes vwishMany p0 = some out) : kI l D K .int yX5_wish wsX5_wish rmX5_wish [.ref (q 0), .int p0] (mdW K q vweight vkind vrhymes vpurse vhas vwishes vwishMany vsightLeft vsightRight vsightHow vsights vpad vpadMany vact vwho vwhich vwhom vacts vplace vopenMany vended vspoken vheaviest vheaviestWeight vhad vbadAct vbadWhy vbrings vbringsThen vkept visKept vkeptAt visWriting) out.1 (mdW K q vweight vkind vrhymes vpurse vhas out.2.1 out.2.2 vsightLeft vsightRight vsightHow vsights vpad vpadMany vact vwho vwhich vwhom vacts vplace vopenMany vended vspoken vheaviest vheaviestWeight vhad vbadAct vbadWhy vbrings vbringsThen vkept visKept vkeptAt visWriting) := by
  refine kI.of (cc := cX5_wish) (maxL := 2) (by decide) rfl (Nat.le_of_ble_eq_true rfl) ?_
  intro p e s m args below meth c A H0 Q ls hx hb hml hown hts hK hN hA hP hD hS hl hret
  have hown : s.vm.findClass RX5 = some m.cls := hown
  have hl : lv_has ls 2 [(0, .ref (q 0)), (1, .int p0)] := hl
  generalize hH : H0 = H at hP ⊢
  have hS : va_S A H0 H [] := by rw [← hH]; exact hS
  clear hH
  unfold f_X5_wish at hf
  refine lv_iload_n hx hb dX5_wish_0 rfl (lv_at hl 1 rfl) ?_
  refine lv_i2l (v := p0.toInt64) hx hb dX5_wish_1 rfl ?_
  refine lv_lconst (v := 0) hx hb dX5_wish_2 (by decide) ?_
  refine lv_ldc2 hx hb hown (hts (.constantLong RX5 100 (4095)) (List.mem_of_getElem? (i := 1) rfl)) dX5_wish_3 ?_
  obtain ⟨o1, ho1, hf⟩ := bd_el hf
  refine kc0_i (D := D) (va_runS (As := [.long p0.toInt64, .long 0, .long 4095]) (rest := []) ⟨hx, hb, hml, hown, hts⟩ ((k_X5_in l D K p0.toInt64 (0) (4095) o1 ho1) H.size) (va_cwS 3 hts gX5_wish_X5_in rfl rfl rfl yd_X5_in ⟨Nat.le_of_ble_eq_true rfl, Nat.le_of_ble_eq_true rfl⟩) (kPreS va_P_nil (va_D_nil (A := fun _ => True)) hK hN) rfl rfl hl.1 rfl (lv_room (Nat.le_of_ble_eq_true rfl)) dX5_wish_6 ⟨Nat.le_of_ble_eq_true rfl, Nat.le_of_ble_eq_true rfl⟩) hP hS hA (fun hzo1 H locs hP hS => ?_)
  refine lv_if_ne (tgt := 15) hx hb dX5_wish_9 (by decide) (fun c2 => ?_) (fun c2 => ?_)
  · rw [if_neg c2] at hf
    refine lv_aload_n hx hb dX5_wish_15 rfl (lv_at hl 0 rfl) ?_
    refine va_get (D := D) (ci := 5) (v := .int vwishMany) (C := RX5) (T := TX5) (N := 33) hx hb hts inX5_wish_X5 hown hK hP 0 rfl rfl 6 (by decide) (hts (.fieldLink RX5 218 "WordScalesModel" "wishMany" "I") (List.mem_of_getElem? (i := 2) rfl)) (fun _ h9 => h9) rfl dX5_wish_16 ?_
    refine lv_bipush (v := 8) hx hb dX5_wish_19 (by decide) ?_
    refine lv_icmp_ne (tgt := 27) hx hb dX5_wish_21 (by decide) (fun c3 => ?_) (fun c3 => ?_)
    · rw [if_neg c3] at hf
      refine lv_aload_n hx hb dX5_wish_27 rfl (lv_at hl 0 rfl) ?_
      refine va_get (D := D) (ci := 5) (v := .ref (q 6)) (C := RX5) (T := TX5) (N := 33) hx hb hts inX5_wish_X5 hown hK hP 0 rfl rfl 5 (by decide) (hts (.fieldLink RX5 25 "WordScalesModel" "wishes" "[I") (List.mem_of_getElem? (i := 3) rfl)) (fun _ h9 => h9) rfl dX5_wish_28 ?_
      refine lv_aload_n hx hb dX5_wish_31 rfl (lv_at hl 0 rfl) ?_
      refine va_get (D := D) (ci := 5) (v := .int vwishMany) (C := RX5) (T := TX5) (N := 33) hx hb hts inX5_wish_X5 hown hK hP 0 rfl rfl 6 (by decide) (hts (.fieldLink RX5 218 "WordScalesModel" "wishMany" "I") (List.mem_of_getElem? (i := 2) rfl)) (fun _ h9 => h9) rfl dX5_wish_32 ?_
      refine lv_iload_n hx hb dX5_wish_35 rfl (lv_at hl 1 rfl) ?_
      obtain ⟨v4, hf⟩ := chk_el hf
      refine va_iast (D := D) (f := vwishes) hx hb hK hP hD hS 6 0 rfl rfl v4 dX5_wish_36 (fun H locs hP hD hS => ?_)
      have hP : va_P D vwCl (mdW K q vweight vkind vrhymes vpurse vhas (upd vwishes (vwishMany).toNatClampNeg p0) vwishMany vsightLeft vsightRight vsightHow vsights vpad vpadMany vact vwho vwhich vwhom vacts vplace vopenMany vended vspoken vheaviest vheaviestWeight vhad vbadAct vbadWhy vbrings vbringsThen vkept visKept vkeptAt visWriting) H := hP
      have hD : va_D A (mdW K q vweight vkind vrhymes vpurse vhas (upd vwishes (vwishMany).toNatClampNeg p0) vwishMany vsightLeft vsightRight vsightHow vsights vpad vpadMany vact vwho vwhich vwhom vacts vplace vopenMany vended vspoken vheaviest vheaviestWeight vhad vbadAct vbadWhy vbrings vbringsThen vkept visKept vkeptAt visWriting) := hD
      refine lv_aload_n hx hb dX5_wish_37 rfl (lv_at hl 0 rfl) ?_
      refine lv_dup hx hb dX5_wish_38 rfl ?_
      refine va_get (D := D) (ci := 5) (v := .int vwishMany) (C := RX5) (T := TX5) (N := 33) hx hb hts inX5_wish_X5 hown hK hP 0 rfl rfl 6 (by decide) (hts (.fieldLink RX5 218 "WordScalesModel" "wishMany" "I") (List.mem_of_getElem? (i := 2) rfl)) (fun _ h9 => h9) rfl dX5_wish_39 ?_
      refine lv_iconst (v := 1) hx hb dX5_wish_42 (by decide) ?_
      refine lv_iadd hx hb dX5_wish_43 ?_
      refine va_put (D := D) (ci := 5) (v := .int (vwishMany + 1)) (ty := .int) (C := RX5) (T := TX5) (N := 33) hx hb hts inX5_wish_X5 tyX5 tyX5_ok nmX5 hown hK hP hD hS 0 rfl rfl 6 (by decide) (hts (.fieldLink RX5 218 "WordScalesModel" "wishMany" "I") (List.mem_of_getElem? (i := 2) rfl)) (fun _ h9 => h9) rfl (tyX5_ok 6 (by decide)) rfl rfl (Nat.le_of_ble_eq_true rfl) dX5_wish_44 (fun H locs hP hD hS => ?_)
      have hP : va_P D vwCl (mdW K q vweight vkind vrhymes vpurse vhas (upd vwishes (vwishMany).toNatClampNeg p0) (vwishMany + 1) vsightLeft vsightRight vsightHow vsights vpad vpadMany vact vwho vwhich vwhom vacts vplace vopenMany vended vspoken vheaviest vheaviestWeight vhad vbadAct vbadWhy vbrings vbringsThen vkept visKept vkeptAt visWriting) H := hP
      have hD : va_D A (mdW K q vweight vkind vrhymes vpurse vhas (upd vwishes (vwishMany).toNatClampNeg p0) (vwishMany + 1) vsightLeft vsightRight vsightHow vsights vpad vpadMany vact vwho vwhich vwhom vacts vplace vopenMany vended vspoken vheaviest vheaviestWeight vhad vbadAct vbadWhy vbrings vbringsThen vkept visKept vkeptAt visWriting) := hD
      refine lv_aload_n hx hb dX5_wish_47 rfl (lv_at hl 0 rfl) ?_
      refine va_get (D := D) (ci := 5) (v := .int (vwishMany + 1)) (C := RX5) (T := TX5) (N := 33) hx hb hts inX5_wish_X5 hown hK hP 0 rfl rfl 6 (by decide) (hts (.fieldLink RX5 218 "WordScalesModel" "wishMany" "I") (List.mem_of_getElem? (i := 2) rfl)) (fun _ h9 => h9) rfl dX5_wish_48 ?_
      obtain rfl := Option.some.inj hf
      exact hret rfl rfl rfl hP hD hS dX5_wish_51
    · rw [if_pos c3] at hf
      refine lv_bipush (v := (-4)) hx hb dX5_wish_24 (by decide) ?_
      obtain rfl := Option.some.inj hf
      exact hret rfl rfl rfl hP hD hS dX5_wish_26
  · rw [if_pos c2] at hf
    refine lv_bipush (v := (-2)) hx hb dX5_wish_12 (by decide) ?_
    obtain rfl := Option.some.inj hf
    exact hret rfl rfl rfl hP hD hS dX5_wish_14
def f_X5_unwish (vwishMany : Int32) : Int32 × Int32 := (vwishMany, 0)
theorem inX5_unwish_X5 : ∀ w ∈ wsX50, w ∈ wsX5_unwish := fun w h => List.mem_cons_of_mem _ (List.mem_append_right _ h)
theorem yd_X5_unwish : yX5_unwish.cls ≠ "java/lang/invoke/MethodHandle" ∧ yX5_unwish.cls ≠ "java/lang/invoke/VarHandle" ∧ (parseMethodDescriptor yX5_unwish.desc).map (fun d => d.parameters.length) = some 0 := by decide +kernel
abbrev rmX5_unwish : Room := { frames := 0, cells := 0, slots := 0, locals := 0 }
set_option maxHeartbeats 4000000 in
set_option maxRecDepth 100000 in
theorem k_X5_unwish (l : Launch) (D : va_G) (K : Nat → ClassId) (q : Nat → Nat) (vweight : Nat → Int32) (vkind : Nat → Int32) (vrhymes : Nat → Int32) (vpurse : Nat → Int32) (vhas : Nat → Int32) (vwishes : Nat → Int32) (vwishMany : Int32) (vsightLeft : Nat → Int32) (vsightRight : Nat → Int32) (vsightHow : Nat → Int32) (vsights : Int32) (vpad : Nat → Int32) (vpadMany : Int32) (vact : Nat → Int32) (vwho : Nat → Int32) (vwhich : Nat → Int32) (vwhom : Nat → Int32) (vacts : Int32) (vplace : Int32) (vopenMany : Int32) (vended : Int32) (vspoken : Int32) (vheaviest : Int32) (vheaviestWeight : Int32) (vhad : Nat → Int32) (vbadAct : Int32) (vbadWhy : Int32) (vbrings : Nat → Int64) (vbringsThen : Nat → Int64) (vkept : Nat → Int32) (visKept : Nat → Int32) (vkeptAt : Int32) (visWriting : Int32) (out : Int32 × Int32) (hf : f_X5_unwish vwishMany = out) : kI l D K .int yX5_unwish wsX5_unwish rmX5_unwish [.ref (q 0)] (mdW K q vweight vkind vrhymes vpurse vhas vwishes vwishMany vsightLeft vsightRight vsightHow vsights vpad vpadMany vact vwho vwhich vwhom vacts vplace vopenMany vended vspoken vheaviest vheaviestWeight vhad vbadAct vbadWhy vbrings vbringsThen vkept visKept vkeptAt visWriting) out.1 (mdW K q vweight vkind vrhymes vpurse vhas vwishes out.2 vsightLeft vsightRight vsightHow vsights vpad vpadMany vact vwho vwhich vwhom vacts vplace vopenMany vended vspoken vheaviest vheaviestWeight vhad vbadAct vbadWhy vbrings vbringsThen vkept visKept vkeptAt visWriting) := by
  refine kI.of (cc := cX5_unwish) (maxL := 2) (by decide) rfl (Nat.le_of_ble_eq_true rfl) ?_
  intro p e s m args below meth c A H0 Q ls hx hb hml hown hts hK hN hA hP hD hS hl hret
  have hown : s.vm.findClass RX5 = some m.cls := hown
  have hl : lv_has ls 2 [(0, .ref (q 0))] := hl
  generalize hH : H0 = H at hP ⊢
  have hS : va_S A H0 H [] := by rw [← hH]; exact hS
  clear hH
  unfold f_X5_unwish at hf
  refine lv_aload_n hx hb dX5_unwish_0 rfl (lv_at hl 0 rfl) ?_
  refine va_get (D := D) (ci := 5) (v := .int vwishMany) (C := RX5) (T := TX5) (N := 33) hx hb hts inX5_unwish_X5 hown hK hP 0 rfl rfl 6 (by decide) (hts (.fieldLink RX5 218 "WordScalesModel" "wishMany" "I") (List.mem_of_getElem? (i := 1) rfl)) (fun _ h9 => h9) rfl dX5_unwish_1 ?_
  refine lv_istore_n (lv' := [(1, .int vwishMany), (0, .ref (q 0))]) hx hb dX5_unwish_4 rfl hl (by decide) rfl (fun ls hl => ?_)
  refine lv_aload_n hx hb dX5_unwish_5 rfl (lv_at hl 1 rfl) ?_
  refine lv_iconst (v := 0) hx hb dX5_unwish_6 (by decide) ?_
  refine va_put (D := D) (ci := 5) (v := .int 0) (ty := .int) (C := RX5) (T := TX5) (N := 33) hx hb hts inX5_unwish_X5 tyX5 tyX5_ok nmX5 hown hK hP hD hS 0 rfl rfl 6 (by decide) (hts (.fieldLink RX5 218 "WordScalesModel" "wishMany" "I") (List.mem_of_getElem? (i := 1) rfl)) (fun _ h9 => h9) rfl (tyX5_ok 6 (by decide)) rfl rfl (Nat.le_of_ble_eq_true rfl) dX5_unwish_7 (fun H locs hP hD hS => ?_)
  have hP : va_P D vwCl (mdW K q vweight vkind vrhymes vpurse vhas vwishes 0 vsightLeft vsightRight vsightHow vsights vpad vpadMany vact vwho vwhich vwhom vacts vplace vopenMany vended vspoken vheaviest vheaviestWeight vhad vbadAct vbadWhy vbrings vbringsThen vkept visKept vkeptAt visWriting) H := hP
  have hD : va_D A (mdW K q vweight vkind vrhymes vpurse vhas vwishes 0 vsightLeft vsightRight vsightHow vsights vpad vpadMany vact vwho vwhich vwhom vacts vplace vopenMany vended vspoken vheaviest vheaviestWeight vhad vbadAct vbadWhy vbrings vbringsThen vkept visKept vkeptAt visWriting) := hD
  refine lv_iload_n hx hb dX5_unwish_10 rfl (lv_at hl 0 rfl) ?_
  subst hf
  exact hret rfl rfl rfl hP hD hS dX5_unwish_11
def s_X5_asksAll_4 (vwishes : Nat → Int32) (vwishMany : Int32) (p0 : Int32) (x : Int32 × Int32) : Option ((Int32 × Int32) ⊕ (Int32 × Int32)) := if vwishMany ≤ x.2 then (some (.inr (x.1, x.2))) else (if x.1 = 0 then (some (.inl (0, (x.2 + 1)))) else (chk x.2 8 (if (p0 &&& (vwishes (x.2).toNatClampNeg)) = 0 then (some (.inl (0, (x.2 + 1)))) else (some (.inl (1, (x.2 + 1)))))))
def f_X5_asksAll (vwishes : Nat → Int32) (vwishMany : Int32) (p0 : Int32) : Option (Int32) := ob (wh (s_X5_asksAll_4 vwishes vwishMany p0) 5000 (1, 0)) (fun r1 => some r1.1)
theorem inX5_asksAll_X5 : ∀ w ∈ wsX50, w ∈ wsX5_asksAll := fun w h => List.mem_cons_of_mem _ (List.mem_append_right _ h)
theorem yd_X5_asksAll : yX5_asksAll.cls ≠ "java/lang/invoke/MethodHandle" ∧ yX5_asksAll.cls ≠ "java/lang/invoke/VarHandle" ∧ (parseMethodDescriptor yX5_asksAll.desc).map (fun d => d.parameters.length) = some 1 := by decide +kernel
abbrev rmX5_asksAll : Room := { frames := 0, cells := 0, slots := 0, locals := 0 }
set_option maxHeartbeats 4000000 in
set_option maxRecDepth 100000 in
theorem k_X5_asksAll (l : Launch) (D : va_G) (K : Nat → ClassId) (q : Nat → Nat) (vweight : Nat → Int32) (vkind : Nat → Int32) (vrhymes : Nat → Int32) (vpurse : Nat → Int32) (vhas : Nat → Int32) (vwishes : Nat → Int32) (vwishMany : Int32) (vsightLeft : Nat → Int32) (vsightRight : Nat → Int32) (vsightHow : Nat → Int32) (vsights : Int32) (vpad : Nat → Int32) (vpadMany : Int32) (vact : Nat → Int32) (vwho : Nat → Int32) (vwhich : Nat → Int32) (vwhom : Nat → Int32) (vacts : Int32) (vplace : Int32) (vopenMany : Int32) (vended : Int32) (vspoken : Int32) (vheaviest : Int32) (vheaviestWeight : Int32) (vhad : Nat → Int32) (vbadAct : Int32) (vbadWhy : Int32) (vbrings : Nat → Int64) (vbringsThen : Nat → Int64) (vkept : Nat → Int32) (visKept : Nat → Int32) (vkeptAt : Int32) (visWriting : Int32) (p0 : Int32) (out : Int32) (hf : f_X5_asksAll vwishes vwishMany p0 = some out) : kI l D K .boolean yX5_asksAll wsX5_asksAll rmX5_asksAll [.ref (q 0), .int p0] (mdW K q vweight vkind vrhymes vpurse vhas vwishes vwishMany vsightLeft vsightRight vsightHow vsights vpad vpadMany vact vwho vwhich vwhom vacts vplace vopenMany vended vspoken vheaviest vheaviestWeight vhad vbadAct vbadWhy vbrings vbringsThen vkept visKept vkeptAt visWriting) out (mdW K q vweight vkind vrhymes vpurse vhas vwishes vwishMany vsightLeft vsightRight vsightHow vsights vpad vpadMany vact vwho vwhich vwhom vacts vplace vopenMany vended vspoken vheaviest vheaviestWeight vhad vbadAct vbadWhy vbrings vbringsThen vkept visKept vkeptAt visWriting) := by
  refine kI.of (cc := cX5_asksAll) (maxL := 4) (by decide) rfl (Nat.le_of_ble_eq_true rfl) ?_
  intro p e s m args below meth c A H0 Q ls hx hb hml hown hts hK hN hA hP hD hS hl hret
  have hown : s.vm.findClass RX5 = some m.cls := hown
  have hl : lv_has ls 4 [(0, .ref (q 0)), (1, .int p0)] := hl
  generalize hH : H0 = H at hP ⊢
  have hS : va_S A H0 H [] := by rw [← hH]; exact hS
  clear hH
  unfold f_X5_asksAll at hf
  refine lv_iconst (v := 1) hx hb dX5_asksAll_0 (by decide) ?_
  refine lv_istore_n (lv' := [(2, .int 1), (0, .ref (q 0)), (1, .int p0)]) hx hb dX5_asksAll_1 rfl hl (by decide) rfl (fun ls hl => ?_)
  refine lv_iconst (v := 0) hx hb dX5_asksAll_2 (by decide) ?_
  refine lv_istore_n (lv' := [(3, .int 0), (2, .int 1), (0, .ref (q 0)), (1, .int p0)]) hx hb dX5_asksAll_3 rfl hl (by decide) rfl (fun ls hl => ?_)
  obtain ⟨r1, hr1, hf⟩ := ob_el hf
  have post4 : ∀ (e4_l2 : Int32) (e4_l3 : Int32) (H : Heap) (locs : List Loc) (ls : Array Slot), (some e4_l2) = some out → va_P D vwCl (mdW K q vweight vkind vrhymes vpurse vhas vwishes vwishMany vsightLeft vsightRight vsightHow vsights vpad vpadMany vact vwho vwhich vwhom vacts vplace vopenMany vended vspoken vheaviest vheaviestWeight vhad vbadAct vbadWhy vbrings vbringsThen vkept visKept vkeptAt visWriting) H → va_D A (mdW K q vweight vkind vrhymes vpurse vhas vwishes vwishMany vsightLeft vsightRight vsightHow vsights vpad vpadMany vact vwho vwhich vwhom vacts vplace vopenMany vended vspoken vheaviest vheaviestWeight vhad vbadAct vbadWhy vbrings vbringsThen vkept visKept vkeptAt visWriting) → va_S A H0 H locs → lv_has ls 4 [(3, .int e4_l3), (2, .int e4_l2), (0, .ref (q 0)), (1, .int p0)] → W p l e rmX5_asksAll s m args below meth c H locs 0 0 Q (F0 m 39 ls []) := by
    intro e4_l2 e4_l3 H locs ls hf hP hD hS hl
    refine lv_iload_n hx hb dX5_asksAll_39 rfl (lv_at hl 1 rfl) ?_
    obtain rfl := Option.some.inj hf
    exact hret rfl rfl ? hP hD hS dX5_asksAll_40
  have lp4 : ∀ (fu : Nat) (x4_l2 : Int32) (x4_l3 : Int32) (H : Heap) (locs : List Loc) (ls : Array Slot), wh (s_X5_asksAll_4 vwishes vwishMany p0) fu (x4_l2, x4_l3) = some r1 → va_P D vwCl (mdW K q vweight vkind vrhymes vpurse vhas vwishes vwishMany vsightLeft vsightRight vsightHow vsights vpad vpadMany vact vwho vwhich vwhom vacts vplace vopenMany vended vspoken vheaviest vheaviestWeight vhad vbadAct vbadWhy vbrings vbringsThen vkept visKept vkeptAt visWriting) H → va_D A (mdW K q vweight vkind vrhymes vpurse vhas vwishes vwishMany vsightLeft vsightRight vsightHow vsights vpad vpadMany vact vwho vwhich vwhom vacts vplace vopenMany vended vspoken vheaviest vheaviestWeight vhad vbadAct vbadWhy vbrings vbringsThen vkept visKept vkeptAt visWriting) → va_S A H0 H locs → lv_has ls 4 [(3, .int x4_l3), (2, .int x4_l2), (0, .ref (q 0)), (1, .int p0)] → W p l e rmX5_asksAll s m args below meth c H locs 0 0 Q (F0 m 4 ls []) := by
    intro fu
    induction fu with
    | zero => intro x4_l2 x4_l3 H locs ls hw4; cases hw4
    | succ fu ih4 =>
      intro x4_l2 x4_l3 H locs ls hw4 hP hD hS hl
      obtain ⟨o4_, hs4, hw4⟩ := wh_el hw4
      unfold s_X5_asksAll_4 at hs4
      dsimp only at hs4
      refine lv_iload_n hx hb dX5_asksAll_4 rfl (lv_at hl 0 rfl) ?_
      refine lv_aload_n hx hb dX5_asksAll_5 rfl (lv_at hl 2 rfl) ?_
      refine va_get (D := D) (ci := 5) (v := .int vwishMany) (C := RX5) (T := TX5) (N := 33) hx hb hts inX5_asksAll_X5 hown hK hP 0 rfl rfl 6 (by decide) (hts (.fieldLink RX5 218 "WordScalesModel" "wishMany" "I") (List.mem_of_getElem? (i := 1) rfl)) (fun _ h9 => h9) rfl dX5_asksAll_6 ?_
      refine lv_icmp_ge (tgt := 39) hx hb dX5_asksAll_9 (by decide) (fun c2 => ?_) (fun c2 => ?_)
      · rw [if_pos c2] at hs4
        obtain rfl := Option.some.inj hs4
        have e9 := Option.some.inj hw4
        rw [← e9] at hf
        exact post4 _ _ _ _ _ hf hP hD hS (lv_sub hl [0, 1, 2, 3] rfl)
      · rw [if_neg c2] at hs4
        refine lv_iload_n hx hb dX5_asksAll_12 rfl (lv_at hl 1 rfl) ?_
        refine lv_if_eq (tgt := 31) hx hb dX5_asksAll_13 (by decide) (fun c3 => ?_) (fun c3 => ?_)
        · rw [if_pos c3] at hs4
          refine lv_iconst (v := 0) hx hb dX5_asksAll_31 (by decide) ?_
          refine lv_istore_n (lv' := [(2, .int 0), (3, .int x4_l3), (0, .ref (q 0)), (1, .int p0)]) hx hb dX5_asksAll_32 rfl hl (by decide) rfl (fun ls hl => ?_)
          refine lv_iinc (v := (x4_l3 + 1)) (lv' := [(3, .int (x4_l3 + 1)), (2, .int 0), (0, .ref (q 0)), (1, .int p0)]) hx hb dX5_asksAll_33 hl (k := 1) rfl (by rfl) (by decide) rfl (fun ls hl => ?_)
          refine lv_goto (tgt := 4) hx hb dX5_asksAll_36 (by decide) ?_
          obtain rfl := Option.some.inj hs4
          exact ih4 _ _ _ _ _ hw4 hP hD hS (lv_sub hl [0, 1, 2, 3] rfl)
        · rw [if_neg c3] at hs4
          refine lv_iload_n hx hb dX5_asksAll_16 rfl (lv_at hl 3 rfl) ?_
          refine lv_aload_n hx hb dX5_asksAll_17 rfl (lv_at hl 2 rfl) ?_
          refine va_get (D := D) (ci := 5) (v := .ref (q 6)) (C := RX5) (T := TX5) (N := 33) hx hb hts inX5_asksAll_X5 hown hK hP 0 rfl rfl 5 (by decide) (hts (.fieldLink RX5 25 "WordScalesModel" "wishes" "[I") (List.mem_of_getElem? (i := 2) rfl)) (fun _ h9 => h9) rfl dX5_asksAll_18 ?_
          refine lv_iload_n hx hb dX5_asksAll_21 rfl (lv_at hl 0 rfl) ?_
          obtain ⟨v4, hs4⟩ := chk_el hs4
          refine va_iald (D := D) (f := vwishes) hx hb hK hP 6 0 rfl rfl v4 dX5_asksAll_22 ?_
          refine lv_iand hx hb dX5_asksAll_23 ?_
          refine lv_if_eq (tgt := 31) hx hb dX5_asksAll_24 (by decide) (fun c5 => ?_) (fun c5 => ?_)
          · rw [if_pos c5] at hs4
            refine lv_iconst (v := 0) hx hb dX5_asksAll_31 (by decide) ?_
            refine lv_istore_n (lv' := [(2, .int 0), (3, .int x4_l3), (0, .ref (q 0)), (1, .int p0)]) hx hb dX5_asksAll_32 rfl hl (by decide) rfl (fun ls hl => ?_)
            refine lv_iinc (v := (x4_l3 + 1)) (lv' := [(3, .int (x4_l3 + 1)), (2, .int 0), (0, .ref (q 0)), (1, .int p0)]) hx hb dX5_asksAll_33 hl (k := 1) rfl (by rfl) (by decide) rfl (fun ls hl => ?_)
            refine lv_goto (tgt := 4) hx hb dX5_asksAll_36 (by decide) ?_
            obtain rfl := Option.some.inj hs4
            exact ih4 _ _ _ _ _ hw4 hP hD hS (lv_sub hl [0, 1, 2, 3] rfl)
          · rw [if_neg c5] at hs4
            refine lv_iconst (v := 1) hx hb dX5_asksAll_27 (by decide) ?_
            refine lv_goto (tgt := 32) hx hb dX5_asksAll_28 (by decide) ?_
            refine lv_istore_n (lv' := [(2, .int 1), (3, .int x4_l3), (0, .ref (q 0)), (1, .int p0)]) hx hb dX5_asksAll_32 rfl hl (by decide) rfl (fun ls hl => ?_)
            refine lv_iinc (v := (x4_l3 + 1)) (lv' := [(3, .int (x4_l3 + 1)), (2, .int 1), (0, .ref (q 0)), (1, .int p0)]) hx hb dX5_asksAll_33 hl (k := 1) rfl (by rfl) (by decide) rfl (fun ls hl => ?_)
            refine lv_goto (tgt := 4) hx hb dX5_asksAll_36 (by decide) ?_
            obtain rfl := Option.some.inj hs4
            exact ih4 _ _ _ _ _ hw4 hP hD hS (lv_sub hl [0, 1, 2, 3] rfl)
  exact lp4 5000 _ _ _ _ _ hr1 hP hD hS (lv_sub hl [0, 1, 2, 3] rfl)
def s_X5_nine_18 (vwishes : Nat → Int32) (vwishMany : Int32) (x : Int32 × Int32) : Option ((Int32 × Int32) ⊕ (Int32 × Int32)) := if 4095 < x.2 then (some (.inr (x.1, x.2))) else (if x.1 < 0 then (ob (f_X5_asksAll vwishes vwishMany x.2) (fun o10 => if o10 = 0 then (some (.inl (x.1, (x.2 + 1)))) else (some (.inl (x.2, (x.2 + 1)))))) else (ob (f_X5_ones x.2) (fun o12 => ob (f_X5_ones x.1) (fun o13 => if o13 ≤ o12 then (some (.inl (x.1, (x.2 + 1)))) else (ob (f_X5_asksAll vwishes vwishMany x.2) (fun o17 => if o17 = 0 then (some (.inl (x.1, (x.2 + 1)))) else (some (.inl (x.2, (x.2 + 1))))))))))
def f_X5_nine (vwishes : Nat → Int32) (vwishMany : Int32) (p0 : Int32) : Option (Int32) := bd (f_X5_in p0.toInt64 (0) (1)) (fun o1 => if o1 = 0 then (some (-2)) else (ob (wh (s_X5_nine_18 vwishes vwishMany) 5000 ((-6), 0)) (fun r3 => if r3.1 < 0 then (some r3.1) else (if p0 = 1 then (some r3.1) else (ob (f_X5_ones r3.1) (fun o6 => some o6))))))
theorem yd_X5_nine : yX5_nine.cls ≠ "java/lang/invoke/MethodHandle" ∧ yX5_nine.cls ≠ "java/lang/invoke/VarHandle" ∧ (parseMethodDescriptor yX5_nine.desc).map (fun d => d.parameters.length) = some 1 := by decide +kernel
abbrev rmX5_nine : Room := { frames := 1, cells := 0, slots := 0, locals := 25 }
set_option maxHeartbeats 4000000 in
set_option maxRecDepth 100000 in
theorem k_X5_nine (l : Launch) (D : va_G) (K : Nat → ClassId) (q : Nat → Nat) (vweight : Nat → Int32) (vkind : Nat → Int32) (vrhymes : Nat → Int32) (vpurse : Nat → Int32) (vhas : Nat → Int32) (vwishes : Nat → Int32) (vwishMany : Int32) (vsightLeft : Nat → Int32) (vsightRight : Nat → Int32) (vsightHow : Nat → Int32) (vsights : Int32) (vpad : Nat → Int32) (vpadMany : Int32) (vact : Nat → Int32) (vwho : Nat → Int32) (vwhich : Nat → Int32) (vwhom : Nat → Int32) (vacts : Int32) (vplace : Int32) (vopenMany : Int32) (vended : Int32) (vspoken : Int32) (vheaviest : Int32) (vheaviestWeight : Int32) (vhad : Nat → Int32) (vbadAct : Int32) (vbadWhy : Int32) (vbrings : Nat → Int64) (vbringsThen : Nat → Int64) (vkept : Nat → Int32) (visKept : Nat → Int32) (vkeptAt : Int32) (visWriting : Int32) (p0 : Int32) (out : Int32) (hf : f_X5_nine vwishes vwishMany p0 = some out) : kI l D K .int yX5_nine wsX5_nine rmX5_nine [.ref (q 0), .int p0] (mdW K q vweight vkind vrhymes vpurse vhas vwishes vwishMany vsightLeft vsightRight vsightHow vsights vpad vpadMany vact vwho vwhich vwhom vacts vplace vopenMany vended vspoken vheaviest vheaviestWeight vhad vbadAct vbadWhy vbrings vbringsThen vkept visKept vkeptAt visWriting) out (mdW K q vweight vkind vrhymes vpurse vhas vwishes vwishMany vsightLeft vsightRight vsightHow vsights vpad vpadMany vact vwho vwhich vwhom vacts vplace vopenMany vended vspoken vheaviest vheaviestWeight vhad vbadAct vbadWhy vbrings vbringsThen vkept visKept vkeptAt visWriting) := by
  refine kI.of (cc := cX5_nine) (maxL := 5) (by decide) rfl (Nat.le_of_ble_eq_true rfl) ?_
  intro p e s m args below meth c A H0 Q ls hx hb hml hown hts hK hN hA hP hD hS hl hret
  have hown : s.vm.findClass RX5 = some m.cls := hown
  have hl : lv_has ls 5 [(0, .ref (q 0)), (1, .int p0)] := hl
  generalize hH : H0 = H at hP ⊢
  have hS : va_S A H0 H [] := by rw [← hH]; exact hS
  clear hH
  unfold f_X5_nine at hf
  refine lv_iload_n hx hb dX5_nine_0 rfl (lv_at hl 1 rfl) ?_
  refine lv_i2l (v := p0.toInt64) hx hb dX5_nine_1 rfl ?_
  refine lv_lconst (v := 0) hx hb dX5_nine_2 (by decide) ?_
  refine lv_lconst (v := 1) hx hb dX5_nine_3 (by decide) ?_
  obtain ⟨o1, ho1, hf⟩ := bd_el hf
  refine kc0_i (D := D) (va_runS (As := [.long p0.toInt64, .long 0, .long 1]) (rest := []) ⟨hx, hb, hml, hown, hts⟩ ((k_X5_in l D K p0.toInt64 (0) (1) o1 ho1) H.size) (va_cwS 3 hts gX5_nine_X5_in rfl rfl rfl yd_X5_in ⟨Nat.le_of_ble_eq_true rfl, Nat.le_of_ble_eq_true rfl⟩) (kPreS va_P_nil (va_D_nil (A := fun _ => True)) hK hN) rfl rfl hl.1 rfl (lv_room (Nat.le_of_ble_eq_true rfl)) dX5_nine_4 ⟨Nat.le_of_ble_eq_true rfl, Nat.le_of_ble_eq_true rfl⟩) hP hS hA (fun hzo1 H locs hP hS => ?_)
  refine lv_if_ne (tgt := 13) hx hb dX5_nine_7 (by decide) (fun c2 => ?_) (fun c2 => ?_)
  · rw [if_neg c2] at hf
    refine lv_bipush (v := (-6)) hx hb dX5_nine_13 (by decide) ?_
    refine lv_istore_n (lv' := [(2, .int (-6)), (0, .ref (q 0)), (1, .int p0)]) hx hb dX5_nine_15 rfl hl (by decide) rfl (fun ls hl => ?_)
    refine lv_iconst (v := 0) hx hb dX5_nine_16 (by decide) ?_
    refine lv_istore_n (lv' := [(3, .int 0), (2, .int (-6)), (0, .ref (q 0)), (1, .int p0)]) hx hb dX5_nine_17 rfl hl (by decide) rfl (fun ls hl => ?_)
    obtain ⟨r3, hr3, hf⟩ := ob_el hf
    have post18 : ∀ (e18_l2 : Int32) (e18_l3 : Int32) (H : Heap) (locs : List Loc) (ls : Array Slot), (if e18_l2 < 0 then (some e18_l2) else (if p0 = 1 then (some e18_l2) else (ob (f_X5_ones e18_l2) (fun o6 => some o6)))) = some out → va_P D vwCl (mdW K q vweight vkind vrhymes vpurse vhas vwishes vwishMany vsightLeft vsightRight vsightHow vsights vpad vpadMany vact vwho vwhich vwhom vacts vplace vopenMany vended vspoken vheaviest vheaviestWeight vhad vbadAct vbadWhy vbrings vbringsThen vkept visKept vkeptAt visWriting) H → va_D A (mdW K q vweight vkind vrhymes vpurse vhas vwishes vwishMany vsightLeft vsightRight vsightHow vsights vpad vpadMany vact vwho vwhich vwhom vacts vplace vopenMany vended vspoken vheaviest vheaviestWeight vhad vbadAct vbadWhy vbrings vbringsThen vkept visKept vkeptAt visWriting) → va_S A H0 H locs → lv_has ls 5 [(3, .int e18_l3), (2, .int e18_l2), (0, .ref (q 0)), (1, .int p0)] → W p l e rmX5_nine s m args below meth c H locs 0 0 Q (F0 m 72 ls []) := by
      intro e18_l2 e18_l3 H locs ls hf hP hD hS hl
      refine lv_iload_n hx hb dX5_nine_72 rfl (lv_at hl 1 rfl) ?_
      refine lv_if_lt (tgt := 81) hx hb dX5_nine_73 (by decide) (fun c4 => ?_) (fun c4 => ?_)
      · rw [if_pos c4] at hf
        refine lv_iload_n hx hb dX5_nine_81 rfl (lv_at hl 1 rfl) ?_
        refine lv_goto (tgt := 89) hx hb dX5_nine_82 (by decide) ?_
        obtain rfl := Option.some.inj hf
        exact hret rfl rfl rfl hP hD hS dX5_nine_89
      · rw [if_neg c4] at hf
        refine lv_iload_n hx hb dX5_nine_76 rfl (lv_at hl 3 rfl) ?_
        refine lv_iconst (v := 1) hx hb dX5_nine_77 (by decide) ?_
        refine lv_icmp_ne (tgt := 85) hx hb dX5_nine_78 (by decide) (fun c5 => ?_) (fun c5 => ?_)
        · rw [if_neg c5] at hf
          refine lv_iload_n hx hb dX5_nine_85 rfl (lv_at hl 1 rfl) ?_
          obtain ⟨o6, ho6, hf⟩ := ob_el hf
          refine kc0_i (D := D) (va_runS (As := [.int e18_l2]) (rest := []) ⟨hx, hb, hml, hown, hts⟩ ((k_X5_ones l D K e18_l2 o6 ho6) H.size) (va_cwS 1 hts gX5_nine_X5_ones rfl rfl rfl yd_X5_ones ⟨Nat.le_of_ble_eq_true rfl, Nat.le_of_ble_eq_true rfl⟩) (kPreS va_P_nil (va_D_nil (A := fun _ => True)) hK hN) rfl rfl hl.1 rfl (lv_room (Nat.le_of_ble_eq_true rfl)) dX5_nine_86 ⟨Nat.le_of_ble_eq_true rfl, Nat.le_of_ble_eq_true rfl⟩) hP hS hA (fun hzo6 H locs hP hS => ?_)
          obtain rfl := Option.some.inj hf
          exact hret rfl rfl rfl hP hD hS dX5_nine_89
        · rw [if_pos c5] at hf
          refine lv_iload_n hx hb dX5_nine_81 rfl (lv_at hl 1 rfl) ?_
          refine lv_goto (tgt := 89) hx hb dX5_nine_82 (by decide) ?_
          obtain rfl := Option.some.inj hf
          exact hret rfl rfl rfl hP hD hS dX5_nine_89
    have lp18 : ∀ (fu : Nat) (x18_l2 : Int32) (x18_l3 : Int32) (H : Heap) (locs : List Loc) (ls : Array Slot), wh (s_X5_nine_18 vwishes vwishMany) fu (x18_l2, x18_l3) = some r3 → va_P D vwCl (mdW K q vweight vkind vrhymes vpurse vhas vwishes vwishMany vsightLeft vsightRight vsightHow vsights vpad vpadMany vact vwho vwhich vwhom vacts vplace vopenMany vended vspoken vheaviest vheaviestWeight vhad vbadAct vbadWhy vbrings vbringsThen vkept visKept vkeptAt visWriting) H → va_D A (mdW K q vweight vkind vrhymes vpurse vhas vwishes vwishMany vsightLeft vsightRight vsightHow vsights vpad vpadMany vact vwho vwhich vwhom vacts vplace vopenMany vended vspoken vheaviest vheaviestWeight vhad vbadAct vbadWhy vbrings vbringsThen vkept visKept vkeptAt visWriting) → va_S A H0 H locs → lv_has ls 5 [(3, .int x18_l3), (2, .int x18_l2), (0, .ref (q 0)), (1, .int p0)] → W p l e rmX5_nine s m args below meth c H locs 0 0 Q (F0 m 18 ls []) := by
      intro fu
      induction fu with
      | zero => intro x18_l2 x18_l3 H locs ls hw18; cases hw18
      | succ fu ih18 =>
        intro x18_l2 x18_l3 H locs ls hw18 hP hD hS hl
        obtain ⟨o18_, hs18, hw18⟩ := wh_el hw18
        unfold s_X5_nine_18 at hs18
        dsimp only at hs18
        refine lv_iload_n hx hb dX5_nine_18 rfl (lv_at hl 0 rfl) ?_
        refine lv_sipush (v := 4095) hx hb dX5_nine_19 (by decide) ?_
        refine lv_icmp_gt (tgt := 72) hx hb dX5_nine_22 (by decide) (fun c7 => ?_) (fun c7 => ?_)
        · rw [if_pos c7] at hs18
          obtain rfl := Option.some.inj hs18
          have e9 := Option.some.inj hw18
          rw [← e9] at hf
          exact post18 _ _ _ _ _ hf hP hD hS (lv_sub hl [0, 1, 2, 3] rfl)
        · rw [if_neg c7] at hs18
          refine lv_iload_n hx hb dX5_nine_25 rfl (lv_at hl 1 rfl) ?_
          refine lv_if_lt (tgt := 40) hx hb dX5_nine_26 (by decide) (fun c8 => ?_) (fun c8 => ?_)
          · rw [if_pos c8] at hs18
            refine lv_iconst (v := 1) hx hb dX5_nine_40 (by decide) ?_
            refine lv_goto (tgt := 45) hx hb dX5_nine_41 (by decide) ?_
            refine lv_istore (lv' := [(4, .int 1), (3, .int x18_l3), (2, .int x18_l2), (0, .ref (q 0)), (1, .int p0)]) hx hb dX5_nine_45 hl (by decide) rfl (fun ls hl => ?_)
            refine lv_iload hx hb dX5_nine_47 (lv_at hl 0 rfl) ?_
            refine lv_if_eq (tgt := 64) hx hb dX5_nine_49 (by decide) (fun c9 => ?_) (fun c9 => ?_)
            · exact absurd c9 (by decide : ¬ (1 : Int32) = 0)
            · skip
              refine lv_aload_n hx hb dX5_nine_52 rfl (lv_at hl 3 rfl) ?_
              refine lv_iload_n hx hb dX5_nine_53 rfl (lv_at hl 1 rfl) ?_
              obtain ⟨o10, ho10, hs18⟩ := ob_el hs18
              refine kcw_i (D := D) (va_runV (As := [.int x18_l3]) (rest := []) ⟨hx, hb, hml, hown, hts⟩ ((k_X5_asksAll l D K q vweight vkind vrhymes vpurse vhas vwishes vwishMany vsightLeft vsightRight vsightHow vsights vpad vpadMany vact vwho vwhich vwhom vacts vplace vopenMany vended vspoken vheaviest vheaviestWeight vhad vbadAct vbadWhy vbrings vbringsThen vkept visKept vkeptAt visWriting x18_l3 o10 ho10) H.size) (cwV 1 hts gX5_nine_X5_asksAll rfl rfl rfl ⟨rfl, yd_X5_asksAll⟩ ⟨Nat.le_of_ble_eq_true rfl, Nat.le_of_ble_eq_true rfl⟩) (kPreV (ci := 5) (q0 := 0) hP rfl rfl hP hD hK hN) rfl rfl hl.1 rfl (lv_room (Nat.le_of_ble_eq_true rfl)) dX5_nine_54 ⟨Nat.le_of_ble_eq_true rfl, Nat.le_of_ble_eq_true rfl⟩) hD hS hA (fun hzo10 H locs hP hD hS => ?_)
              have hP : va_P D vwCl (mdW K q vweight vkind vrhymes vpurse vhas vwishes vwishMany vsightLeft vsightRight vsightHow vsights vpad vpadMany vact vwho vwhich vwhom vacts vplace vopenMany vended vspoken vheaviest vheaviestWeight vhad vbadAct vbadWhy vbrings vbringsThen vkept visKept vkeptAt visWriting) H := hP
              have hD : va_D A (mdW K q vweight vkind vrhymes vpurse vhas vwishes vwishMany vsightLeft vsightRight vsightHow vsights vpad vpadMany vact vwho vwhich vwhom vacts vplace vopenMany vended vspoken vheaviest vheaviestWeight vhad vbadAct vbadWhy vbrings vbringsThen vkept visKept vkeptAt visWriting) := hD
              refine lv_if_eq (tgt := 64) hx hb dX5_nine_57 (by decide) (fun c11 => ?_) (fun c11 => ?_)
              · rw [if_pos c11] at hs18
                refine lv_iload_n hx hb dX5_nine_64 rfl (lv_at hl 2 rfl) ?_
                refine lv_istore_n (lv' := [(2, .int x18_l2), (4, .int 1), (3, .int x18_l3), (0, .ref (q 0)), (1, .int p0)]) hx hb dX5_nine_65 rfl hl (by decide) rfl (fun ls hl => ?_)
                refine lv_iinc (v := (x18_l3 + 1)) (lv' := [(3, .int (x18_l3 + 1)), (2, .int x18_l2), (4, .int 1), (0, .ref (q 0)), (1, .int p0)]) hx hb dX5_nine_66 hl (k := 2) rfl (by rfl) (by decide) rfl (fun ls hl => ?_)
                refine lv_goto (tgt := 18) hx hb dX5_nine_69 (by decide) ?_
                obtain rfl := Option.some.inj hs18
                exact ih18 _ _ _ _ _ hw18 hP hD hS (lv_sub hl [0, 1, 3, 4] rfl)
              · rw [if_neg c11] at hs18
                refine lv_iload_n hx hb dX5_nine_60 rfl (lv_at hl 1 rfl) ?_
                refine lv_goto (tgt := 65) hx hb dX5_nine_61 (by decide) ?_
                refine lv_istore_n (lv' := [(2, .int x18_l3), (4, .int 1), (3, .int x18_l3), (0, .ref (q 0)), (1, .int p0)]) hx hb dX5_nine_65 rfl hl (by decide) rfl (fun ls hl => ?_)
                refine lv_iinc (v := (x18_l3 + 1)) (lv' := [(3, .int (x18_l3 + 1)), (2, .int x18_l3), (4, .int 1), (0, .ref (q 0)), (1, .int p0)]) hx hb dX5_nine_66 hl (k := 2) rfl (by rfl) (by decide) rfl (fun ls hl => ?_)
                refine lv_goto (tgt := 18) hx hb dX5_nine_69 (by decide) ?_
                obtain rfl := Option.some.inj hs18
                exact ih18 _ _ _ _ _ hw18 hP hD hS (lv_sub hl [0, 1, 3, 4] rfl)
          · rw [if_neg c8] at hs18
            refine lv_iload_n hx hb dX5_nine_29 rfl (lv_at hl 0 rfl) ?_
            obtain ⟨o12, ho12, hs18⟩ := ob_el hs18
            refine kc0_i (D := D) (va_runS (As := [.int x18_l3]) (rest := []) ⟨hx, hb, hml, hown, hts⟩ ((k_X5_ones l D K x18_l3 o12 ho12) H.size) (va_cwS 1 hts gX5_nine_X5_ones rfl rfl rfl yd_X5_ones ⟨Nat.le_of_ble_eq_true rfl, Nat.le_of_ble_eq_true rfl⟩) (kPreS va_P_nil (va_D_nil (A := fun _ => True)) hK hN) rfl rfl hl.1 rfl (lv_room (Nat.le_of_ble_eq_true rfl)) dX5_nine_30 ⟨Nat.le_of_ble_eq_true rfl, Nat.le_of_ble_eq_true rfl⟩) hP hS hA (fun hzo12 H locs hP hS => ?_)
            refine lv_iload_n hx hb dX5_nine_33 rfl (lv_at hl 1 rfl) ?_
            obtain ⟨o13, ho13, hs18⟩ := ob_el hs18
            refine kc0_i (D := D) (va_runS (As := [.int x18_l2]) (rest := [.int o12]) ⟨hx, hb, hml, hown, hts⟩ ((k_X5_ones l D K x18_l2 o13 ho13) H.size) (va_cwS 1 hts gX5_nine_X5_ones rfl rfl rfl yd_X5_ones ⟨Nat.le_of_ble_eq_true rfl, Nat.le_of_ble_eq_true rfl⟩) (kPreS va_P_nil (va_D_nil (A := fun _ => True)) hK hN) rfl rfl hl.1 rfl (lv_room (Nat.le_of_ble_eq_true rfl)) dX5_nine_34 ⟨Nat.le_of_ble_eq_true rfl, Nat.le_of_ble_eq_true rfl⟩) hP hS hA (fun hzo13 H locs hP hS => ?_)
            refine lv_icmp_ge (tgt := 44) hx hb dX5_nine_37 (by decide) (fun c14 => ?_) (fun c14 => ?_)
            · rw [if_pos c14] at hs18
              refine lv_iconst (v := 0) hx hb dX5_nine_44 (by decide) ?_
              refine lv_istore (lv' := [(4, .int 0), (3, .int x18_l3), (2, .int x18_l2), (0, .ref (q 0)), (1, .int p0)]) hx hb dX5_nine_45 hl (by decide) rfl (fun ls hl => ?_)
              refine lv_iload hx hb dX5_nine_47 (lv_at hl 0 rfl) ?_
              refine lv_if_eq (tgt := 64) hx hb dX5_nine_49 (by decide) (fun c15 => ?_) (fun c15 => ?_)
              · skip
                refine lv_iload_n hx hb dX5_nine_64 rfl (lv_at hl 2 rfl) ?_
                refine lv_istore_n (lv' := [(2, .int x18_l2), (4, .int 0), (3, .int x18_l3), (0, .ref (q 0)), (1, .int p0)]) hx hb dX5_nine_65 rfl hl (by decide) rfl (fun ls hl => ?_)
                refine lv_iinc (v := (x18_l3 + 1)) (lv' := [(3, .int (x18_l3 + 1)), (2, .int x18_l2), (4, .int 0), (0, .ref (q 0)), (1, .int p0)]) hx hb dX5_nine_66 hl (k := 2) rfl (by rfl) (by decide) rfl (fun ls hl => ?_)
                refine lv_goto (tgt := 18) hx hb dX5_nine_69 (by decide) ?_
                obtain rfl := Option.some.inj hs18
                exact ih18 _ _ _ _ _ hw18 hP hD hS (lv_sub hl [0, 1, 3, 4] rfl)
              · exact absurd (by decide : (0 : Int32) = 0) c15
            · rw [if_neg c14] at hs18
              refine lv_iconst (v := 1) hx hb dX5_nine_40 (by decide) ?_
              refine lv_goto (tgt := 45) hx hb dX5_nine_41 (by decide) ?_
              refine lv_istore (lv' := [(4, .int 1), (3, .int x18_l3), (2, .int x18_l2), (0, .ref (q 0)), (1, .int p0)]) hx hb dX5_nine_45 hl (by decide) rfl (fun ls hl => ?_)
              refine lv_iload hx hb dX5_nine_47 (lv_at hl 0 rfl) ?_
              refine lv_if_eq (tgt := 64) hx hb dX5_nine_49 (by decide) (fun c16 => ?_) (fun c16 => ?_)
              · exact absurd c16 (by decide : ¬ (1 : Int32) = 0)
              · skip
                refine lv_aload_n hx hb dX5_nine_52 rfl (lv_at hl 3 rfl) ?_
                refine lv_iload_n hx hb dX5_nine_53 rfl (lv_at hl 1 rfl) ?_
                obtain ⟨o17, ho17, hs18⟩ := ob_el hs18
                refine kcw_i (D := D) (va_runV (As := [.int x18_l3]) (rest := []) ⟨hx, hb, hml, hown, hts⟩ ((k_X5_asksAll l D K q vweight vkind vrhymes vpurse vhas vwishes vwishMany vsightLeft vsightRight vsightHow vsights vpad vpadMany vact vwho vwhich vwhom vacts vplace vopenMany vended vspoken vheaviest vheaviestWeight vhad vbadAct vbadWhy vbrings vbringsThen vkept visKept vkeptAt visWriting x18_l3 o17 ho17) H.size) (cwV 1 hts gX5_nine_X5_asksAll rfl rfl rfl ⟨rfl, yd_X5_asksAll⟩ ⟨Nat.le_of_ble_eq_true rfl, Nat.le_of_ble_eq_true rfl⟩) (kPreV (ci := 5) (q0 := 0) hP rfl rfl hP hD hK hN) rfl rfl hl.1 rfl (lv_room (Nat.le_of_ble_eq_true rfl)) dX5_nine_54 ⟨Nat.le_of_ble_eq_true rfl, Nat.le_of_ble_eq_true rfl⟩) hD hS hA (fun hzo17 H locs hP hD hS => ?_)
                have hP : va_P D vwCl (mdW K q vweight vkind vrhymes vpurse vhas vwishes vwishMany vsightLeft vsightRight vsightHow vsights vpad vpadMany vact vwho vwhich vwhom vacts vplace vopenMany vended vspoken vheaviest vheaviestWeight vhad vbadAct vbadWhy vbrings vbringsThen vkept visKept vkeptAt visWriting) H := hP
                have hD : va_D A (mdW K q vweight vkind vrhymes vpurse vhas vwishes vwishMany vsightLeft vsightRight vsightHow vsights vpad vpadMany vact vwho vwhich vwhom vacts vplace vopenMany vended vspoken vheaviest vheaviestWeight vhad vbadAct vbadWhy vbrings vbringsThen vkept visKept vkeptAt visWriting) := hD
                refine lv_if_eq (tgt := 64) hx hb dX5_nine_57 (by decide) (fun c18 => ?_) (fun c18 => ?_)
                · rw [if_pos c18] at hs18
                  refine lv_iload_n hx hb dX5_nine_64 rfl (lv_at hl 2 rfl) ?_
                  refine lv_istore_n (lv' := [(2, .int x18_l2), (4, .int 1), (3, .int x18_l3), (0, .ref (q 0)), (1, .int p0)]) hx hb dX5_nine_65 rfl hl (by decide) rfl (fun ls hl => ?_)
                  refine lv_iinc (v := (x18_l3 + 1)) (lv' := [(3, .int (x18_l3 + 1)), (2, .int x18_l2), (4, .int 1), (0, .ref (q 0)), (1, .int p0)]) hx hb dX5_nine_66 hl (k := 2) rfl (by rfl) (by decide) rfl (fun ls hl => ?_)
                  refine lv_goto (tgt := 18) hx hb dX5_nine_69 (by decide) ?_
                  obtain rfl := Option.some.inj hs18
                  exact ih18 _ _ _ _ _ hw18 hP hD hS (lv_sub hl [0, 1, 3, 4] rfl)
                · rw [if_neg c18] at hs18
                  refine lv_iload_n hx hb dX5_nine_60 rfl (lv_at hl 1 rfl) ?_
                  refine lv_goto (tgt := 65) hx hb dX5_nine_61 (by decide) ?_
                  refine lv_istore_n (lv' := [(2, .int x18_l3), (4, .int 1), (3, .int x18_l3), (0, .ref (q 0)), (1, .int p0)]) hx hb dX5_nine_65 rfl hl (by decide) rfl (fun ls hl => ?_)
                  refine lv_iinc (v := (x18_l3 + 1)) (lv' := [(3, .int (x18_l3 + 1)), (2, .int x18_l3), (4, .int 1), (0, .ref (q 0)), (1, .int p0)]) hx hb dX5_nine_66 hl (k := 2) rfl (by rfl) (by decide) rfl (fun ls hl => ?_)
                  refine lv_goto (tgt := 18) hx hb dX5_nine_69 (by decide) ?_
                  obtain rfl := Option.some.inj hs18
                  exact ih18 _ _ _ _ _ hw18 hP hD hS (lv_sub hl [0, 1, 3, 4] rfl)
    exact lp18 5000 _ _ _ _ _ hr3 hP hD hS (lv_sub hl [0, 1, 2, 3] rfl)
  · rw [if_pos c2] at hf
    refine lv_bipush (v := (-2)) hx hb dX5_nine_10 (by decide) ?_
    obtain rfl := Option.some.inj hf
    exact hret rfl rfl rfl hP hD hS dX5_nine_12
def f_X5_seen (vsightLeft : Nat → Int32) (vsightRight : Nat → Int32) (vsightHow : Nat → Int32) (vsights : Int32) (p0 : Int32) (p1 : Int32) (p2 : Int32) : Option (Int32 × (Nat → Int32) × (Nat → Int32) × (Nat → Int32) × Int32) := bd (f_X5_in p0.toInt64 (0) (4095)) (fun o1 => if o1 = 0 then (some ((-2), vsightLeft, vsightRight, vsightHow, vsights)) else (bd (f_X5_in p1.toInt64 (0) (4095)) (fun o4 => if o4 = 0 then (some ((-2), vsightLeft, vsightRight, vsightHow, vsights)) else (bd (f_X5_in p2.toInt64 (0) (2)) (fun o7 => if o7 = 0 then (some ((-2), vsightLeft, vsightRight, vsightHow, vsights)) else (ob (f_X5_ones p0) (fun o11 => ob (f_X5_ones p1) (fun o12 => if o11 = o12 then (if (p0 &&& p1) = 0 then (if vsights = 6 then (some ((-4), vsightLeft, vsightRight, vsightHow, vsights)) else (chk vsights 6 (some ((vsights + 1), (upd vsightLeft (vsights).toNatClampNeg p0), (upd vsightRight (vsights).toNatClampNeg p1), (upd vsightHow (vsights).toNatClampNeg p2), (vsights + 1))))) else (some ((-2), vsightLeft, vsightRight, vsightHow, vsights))) else (some ((-2), vsightLeft, vsightRight, vsightHow, vsights))))))))))
theorem inX5_seen_X5 : ∀ w ∈ wsX50, w ∈ wsX5_seen := fun w h => List.mem_cons_of_mem _ (List.mem_append_right _ h)
theorem yd_X5_seen : yX5_seen.cls ≠ "java/lang/invoke/MethodHandle" ∧ yX5_seen.cls ≠ "java/lang/invoke/VarHandle" ∧ (parseMethodDescriptor yX5_seen.desc).map (fun d => d.parameters.length) = some 3 := by decide +kernel
abbrev rmX5_seen : Room := { frames := 1, cells := 0, slots := 0, locals := 25 }
set_option maxHeartbeats 4000000 in
set_option maxRecDepth 100000 in
theorem k_X5_seen (l : Launch) (D : va_G) (K : Nat → ClassId) (q : Nat → Nat) (vweight : Nat → Int32) (vkind : Nat → Int32) (vrhymes : Nat → Int32) (vpurse : Nat → Int32) (vhas : Nat → Int32) (vwishes : Nat → Int32) (vwishMany : Int32) (vsightLeft : Nat → Int32) (vsightRight : Nat → Int32) (vsightHow : Nat → Int32) (vsights : Int32) (vpad : Nat → Int32) (vpadMany : Int32) (vact : Nat → Int32) (vwho : Nat → Int32) (vwhich : Nat → Int32) (vwhom : Nat → Int32) (vacts : Int32) (vplace : Int32) (vopenMany : Int32) (vended : Int32) (vspoken : Int32) (vheaviest : Int32) (vheaviestWeight : Int32) (vhad : Nat → Int32) (vbadAct : Int32) (vbadWhy : Int32) (vbrings : Nat → Int64) (vbringsThen : Nat → Int64) (vkept : Nat → Int32) (visKept : Nat → Int32) (vkeptAt : Int32) (visWriting : Int32) (p0 : Int32) (p1 : Int32) (p2 : Int32) (out : Int32 × (Nat → Int32) × (Nat → Int32) × (Nat → Int32) × Int32) (hf : f_X5_seen vsightLeft vsightRight vsightHow vsights p0 p1 p2 = some out) : kI l D K .int yX5_seen wsX5_seen rmX5_seen [.ref (q 0), .int p0, .int p1, .int p2] (mdW K q vweight vkind vrhymes vpurse vhas vwishes vwishMany vsightLeft vsightRight vsightHow vsights vpad vpadMany vact vwho vwhich vwhom vacts vplace vopenMany vended vspoken vheaviest vheaviestWeight vhad vbadAct vbadWhy vbrings vbringsThen vkept visKept vkeptAt visWriting) out.1 (mdW K q vweight vkind vrhymes vpurse vhas vwishes vwishMany out.2.1 out.2.2.1 out.2.2.2.1 out.2.2.2.2 vpad vpadMany vact vwho vwhich vwhom vacts vplace vopenMany vended vspoken vheaviest vheaviestWeight vhad vbadAct vbadWhy vbrings vbringsThen vkept visKept vkeptAt visWriting) := by
  refine kI.of (cc := cX5_seen) (maxL := 5) (by decide) rfl (Nat.le_of_ble_eq_true rfl) ?_
  intro p e s m args below meth c A H0 Q ls hx hb hml hown hts hK hN hA hP hD hS hl hret
  have hown : s.vm.findClass RX5 = some m.cls := hown
  have hl : lv_has ls 5 [(0, .ref (q 0)), (1, .int p0), (2, .int p1), (3, .int p2)] := hl
  generalize hH : H0 = H at hP ⊢
  have hS : va_S A H0 H [] := by rw [← hH]; exact hS
  clear hH
  unfold f_X5_seen at hf
  refine lv_iload_n hx hb dX5_seen_0 rfl (lv_at hl 1 rfl) ?_
  refine lv_i2l (v := p0.toInt64) hx hb dX5_seen_1 rfl ?_
  refine lv_lconst (v := 0) hx hb dX5_seen_2 (by decide) ?_
  refine lv_ldc2 hx hb hown (hts (.constantLong RX5 100 (4095)) (List.mem_of_getElem? (i := 1) rfl)) dX5_seen_3 ?_
  obtain ⟨o1, ho1, hf⟩ := bd_el hf
  refine kc0_i (D := D) (va_runS (As := [.long p0.toInt64, .long 0, .long 4095]) (rest := []) ⟨hx, hb, hml, hown, hts⟩ ((k_X5_in l D K p0.toInt64 (0) (4095) o1 ho1) H.size) (va_cwS 3 hts gX5_seen_X5_in rfl rfl rfl yd_X5_in ⟨Nat.le_of_ble_eq_true rfl, Nat.le_of_ble_eq_true rfl⟩) (kPreS va_P_nil (va_D_nil (A := fun _ => True)) hK hN) rfl rfl hl.1 rfl (lv_room (Nat.le_of_ble_eq_true rfl)) dX5_seen_6 ⟨Nat.le_of_ble_eq_true rfl, Nat.le_of_ble_eq_true rfl⟩) hP hS hA (fun hzo1 H locs hP hS => ?_)
  refine lv_if_eq (tgt := 40) hx hb dX5_seen_9 (by decide) (fun c2 => ?_) (fun c2 => ?_)
  · rw [if_pos c2] at hf
    refine lv_iconst (v := 0) hx hb dX5_seen_40 (by decide) ?_
    refine lv_istore (lv' := [(4, .int 0), (0, .ref (q 0)), (1, .int p0), (2, .int p1), (3, .int p2)]) hx hb dX5_seen_41 hl (by decide) rfl (fun ls hl => ?_)
    refine lv_iload hx hb dX5_seen_43 (lv_at hl 0 rfl) ?_
    refine lv_if_eq (tgt := 65) hx hb dX5_seen_45 (by decide) (fun c3 => ?_) (fun c3 => ?_)
    · skip
      refine lv_bipush (v := (-2)) hx hb dX5_seen_65 (by decide) ?_
      obtain rfl := Option.some.inj hf
      exact hret rfl rfl rfl hP hD hS dX5_seen_67
    · exact absurd (by decide : (0 : Int32) = 0) c3
  · rw [if_neg c2] at hf
    refine lv_iload_n hx hb dX5_seen_12 rfl (lv_at hl 2 rfl) ?_
    refine lv_i2l (v := p1.toInt64) hx hb dX5_seen_13 rfl ?_
    refine lv_lconst (v := 0) hx hb dX5_seen_14 (by decide) ?_
    refine lv_ldc2 hx hb hown (hts (.constantLong RX5 100 (4095)) (List.mem_of_getElem? (i := 1) rfl)) dX5_seen_15 ?_
    obtain ⟨o4, ho4, hf⟩ := bd_el hf
    refine kc0_i (D := D) (va_runS (As := [.long p1.toInt64, .long 0, .long 4095]) (rest := []) ⟨hx, hb, hml, hown, hts⟩ ((k_X5_in l D K p1.toInt64 (0) (4095) o4 ho4) H.size) (va_cwS 3 hts gX5_seen_X5_in rfl rfl rfl yd_X5_in ⟨Nat.le_of_ble_eq_true rfl, Nat.le_of_ble_eq_true rfl⟩) (kPreS va_P_nil (va_D_nil (A := fun _ => True)) hK hN) rfl rfl hl.1 rfl (lv_room (Nat.le_of_ble_eq_true rfl)) dX5_seen_18 ⟨Nat.le_of_ble_eq_true rfl, Nat.le_of_ble_eq_true rfl⟩) hP hS hA (fun hzo4 H locs hP hS => ?_)
    refine lv_if_eq (tgt := 40) hx hb dX5_seen_21 (by decide) (fun c5 => ?_) (fun c5 => ?_)
    · rw [if_pos c5] at hf
      refine lv_iconst (v := 0) hx hb dX5_seen_40 (by decide) ?_
      refine lv_istore (lv' := [(4, .int 0), (0, .ref (q 0)), (1, .int p0), (2, .int p1), (3, .int p2)]) hx hb dX5_seen_41 hl (by decide) rfl (fun ls hl => ?_)
      refine lv_iload hx hb dX5_seen_43 (lv_at hl 0 rfl) ?_
      refine lv_if_eq (tgt := 65) hx hb dX5_seen_45 (by decide) (fun c6 => ?_) (fun c6 => ?_)
      · skip
        refine lv_bipush (v := (-2)) hx hb dX5_seen_65 (by decide) ?_
        obtain rfl := Option.some.inj hf
        exact hret rfl rfl rfl hP hD hS dX5_seen_67
      · exact absurd (by decide : (0 : Int32) = 0) c6
    · rw [if_neg c5] at hf
      refine lv_iload_n hx hb dX5_seen_24 rfl (lv_at hl 3 rfl) ?_
      refine lv_i2l (v := p2.toInt64) hx hb dX5_seen_25 rfl ?_
      refine lv_lconst (v := 0) hx hb dX5_seen_26 (by decide) ?_
      refine lv_ldc2 hx hb hown (hts (.constantLong RX5 83 (2)) (List.mem_of_getElem? (i := 2) rfl)) dX5_seen_27 ?_
      obtain ⟨o7, ho7, hf⟩ := bd_el hf
      refine kc0_i (D := D) (va_runS (As := [.long p2.toInt64, .long 0, .long 2]) (rest := []) ⟨hx, hb, hml, hown, hts⟩ ((k_X5_in l D K p2.toInt64 (0) (2) o7 ho7) H.size) (va_cwS 3 hts gX5_seen_X5_in rfl rfl rfl yd_X5_in ⟨Nat.le_of_ble_eq_true rfl, Nat.le_of_ble_eq_true rfl⟩) (kPreS va_P_nil (va_D_nil (A := fun _ => True)) hK hN) rfl rfl hl.1 rfl (lv_room (Nat.le_of_ble_eq_true rfl)) dX5_seen_30 ⟨Nat.le_of_ble_eq_true rfl, Nat.le_of_ble_eq_true rfl⟩) hP hS hA (fun hzo7 H locs hP hS => ?_)
      refine lv_if_eq (tgt := 40) hx hb dX5_seen_33 (by decide) (fun c8 => ?_) (fun c8 => ?_)
      · rw [if_pos c8] at hf
        refine lv_iconst (v := 0) hx hb dX5_seen_40 (by decide) ?_
        refine lv_istore (lv' := [(4, .int 0), (0, .ref (q 0)), (1, .int p0), (2, .int p1), (3, .int p2)]) hx hb dX5_seen_41 hl (by decide) rfl (fun ls hl => ?_)
        refine lv_iload hx hb dX5_seen_43 (lv_at hl 0 rfl) ?_
        refine lv_if_eq (tgt := 65) hx hb dX5_seen_45 (by decide) (fun c9 => ?_) (fun c9 => ?_)
        · skip
          refine lv_bipush (v := (-2)) hx hb dX5_seen_65 (by decide) ?_
          obtain rfl := Option.some.inj hf
          exact hret rfl rfl rfl hP hD hS dX5_seen_67
        · exact absurd (by decide : (0 : Int32) = 0) c9
      · rw [if_neg c8] at hf
        refine lv_iconst (v := 1) hx hb dX5_seen_36 (by decide) ?_
        refine lv_goto (tgt := 41) hx hb dX5_seen_37 (by decide) ?_
        refine lv_istore (lv' := [(4, .int 1), (0, .ref (q 0)), (1, .int p0), (2, .int p1), (3, .int p2)]) hx hb dX5_seen_41 hl (by decide) rfl (fun ls hl => ?_)
        refine lv_iload hx hb dX5_seen_43 (lv_at hl 0 rfl) ?_
        refine lv_if_eq (tgt := 65) hx hb dX5_seen_45 (by decide) (fun c10 => ?_) (fun c10 => ?_)
        · exact absurd c10 (by decide : ¬ (1 : Int32) = 0)
        · skip
          refine lv_iload_n hx hb dX5_seen_48 rfl (lv_at hl 2 rfl) ?_
          obtain ⟨o11, ho11, hf⟩ := ob_el hf
          refine kc0_i (D := D) (va_runS (As := [.int p0]) (rest := []) ⟨hx, hb, hml, hown, hts⟩ ((k_X5_ones l D K p0 o11 ho11) H.size) (va_cwS 1 hts gX5_seen_X5_ones rfl rfl rfl yd_X5_ones ⟨Nat.le_of_ble_eq_true rfl, Nat.le_of_ble_eq_true rfl⟩) (kPreS va_P_nil (va_D_nil (A := fun _ => True)) hK hN) rfl rfl hl.1 rfl (lv_room (Nat.le_of_ble_eq_true rfl)) dX5_seen_49 ⟨Nat.le_of_ble_eq_true rfl, Nat.le_of_ble_eq_true rfl⟩) hP hS hA (fun hzo11 H locs hP hS => ?_)
          refine lv_iload_n hx hb dX5_seen_52 rfl (lv_at hl 3 rfl) ?_
          obtain ⟨o12, ho12, hf⟩ := ob_el hf
          refine kc0_i (D := D) (va_runS (As := [.int p1]) (rest := [.int o11]) ⟨hx, hb, hml, hown, hts⟩ ((k_X5_ones l D K p1 o12 ho12) H.size) (va_cwS 1 hts gX5_seen_X5_ones rfl rfl rfl yd_X5_ones ⟨Nat.le_of_ble_eq_true rfl, Nat.le_of_ble_eq_true rfl⟩) (kPreS va_P_nil (va_D_nil (A := fun _ => True)) hK hN) rfl rfl hl.1 rfl (lv_room (Nat.le_of_ble_eq_true rfl)) dX5_seen_53 ⟨Nat.le_of_ble_eq_true rfl, Nat.le_of_ble_eq_true rfl⟩) hP hS hA (fun hzo12 H locs hP hS => ?_)
          refine lv_icmp_ne (tgt := 65) hx hb dX5_seen_56 (by decide) (fun c13 => ?_) (fun c13 => ?_)
          · rw [if_neg c13] at hf
            refine lv_bipush (v := (-2)) hx hb dX5_seen_65 (by decide) ?_
            obtain rfl := Option.some.inj hf
            exact hret rfl rfl rfl hP hD hS dX5_seen_67
          · rw [if_pos c13] at hf
            refine lv_iload_n hx hb dX5_seen_59 rfl (lv_at hl 2 rfl) ?_
            refine lv_iload_n hx hb dX5_seen_60 rfl (lv_at hl 3 rfl) ?_
            refine lv_iand hx hb dX5_seen_61 ?_
            refine lv_if_eq (tgt := 68) hx hb dX5_seen_62 (by decide) (fun c14 => ?_) (fun c14 => ?_)
            · rw [if_pos c14] at hf
              refine lv_aload_n hx hb dX5_seen_68 rfl (lv_at hl 1 rfl) ?_
              refine va_get (D := D) (ci := 5) (v := .int vsights) (C := RX5) (T := TX5) (N := 33) hx hb hts inX5_seen_X5 hown hK hP 0 rfl rfl 10 (by decide) (hts (.fieldLink RX5 224 "WordScalesModel" "sights" "I") (List.mem_of_getElem? (i := 3) rfl)) (fun _ h9 => h9) rfl dX5_seen_69 ?_
              refine lv_bipush (v := 6) hx hb dX5_seen_72 (by decide) ?_
              refine lv_icmp_ne (tgt := 80) hx hb dX5_seen_74 (by decide) (fun c15 => ?_) (fun c15 => ?_)
              · rw [if_neg c15] at hf
                refine lv_aload_n hx hb dX5_seen_80 rfl (lv_at hl 1 rfl) ?_
                refine va_get (D := D) (ci := 5) (v := .ref (q 7)) (C := RX5) (T := TX5) (N := 33) hx hb hts inX5_seen_X5 hown hK hP 0 rfl rfl 7 (by decide) (hts (.fieldLink RX5 28 "WordScalesModel" "sightLeft" "[I") (List.mem_of_getElem? (i := 4) rfl)) (fun _ h9 => h9) rfl dX5_seen_81 ?_
                refine lv_aload_n hx hb dX5_seen_84 rfl (lv_at hl 1 rfl) ?_
                refine va_get (D := D) (ci := 5) (v := .int vsights) (C := RX5) (T := TX5) (N := 33) hx hb hts inX5_seen_X5 hown hK hP 0 rfl rfl 10 (by decide) (hts (.fieldLink RX5 224 "WordScalesModel" "sights" "I") (List.mem_of_getElem? (i := 3) rfl)) (fun _ h9 => h9) rfl dX5_seen_85 ?_
                refine lv_iload_n hx hb dX5_seen_88 rfl (lv_at hl 2 rfl) ?_
                obtain ⟨v16, hf⟩ := chk_el hf
                refine va_iast (D := D) (f := vsightLeft) hx hb hK hP hD hS 7 0 rfl rfl v16 dX5_seen_89 (fun H locs hP hD hS => ?_)
                have hP : va_P D vwCl (mdW K q vweight vkind vrhymes vpurse vhas vwishes vwishMany (upd vsightLeft (vsights).toNatClampNeg p0) vsightRight vsightHow vsights vpad vpadMany vact vwho vwhich vwhom vacts vplace vopenMany vended vspoken vheaviest vheaviestWeight vhad vbadAct vbadWhy vbrings vbringsThen vkept visKept vkeptAt visWriting) H := hP
                have hD : va_D A (mdW K q vweight vkind vrhymes vpurse vhas vwishes vwishMany (upd vsightLeft (vsights).toNatClampNeg p0) vsightRight vsightHow vsights vpad vpadMany vact vwho vwhich vwhom vacts vplace vopenMany vended vspoken vheaviest vheaviestWeight vhad vbadAct vbadWhy vbrings vbringsThen vkept visKept vkeptAt visWriting) := hD
                refine lv_aload_n hx hb dX5_seen_90 rfl (lv_at hl 1 rfl) ?_
                refine va_get (D := D) (ci := 5) (v := .ref (q 8)) (C := RX5) (T := TX5) (N := 33) hx hb hts inX5_seen_X5 hown hK hP 0 rfl rfl 8 (by decide) (hts (.fieldLink RX5 31 "WordScalesModel" "sightRight" "[I") (List.mem_of_getElem? (i := 5) rfl)) (fun _ h9 => h9) rfl dX5_seen_91 ?_
                refine lv_aload_n hx hb dX5_seen_94 rfl (lv_at hl 1 rfl) ?_
                refine va_get (D := D) (ci := 5) (v := .int vsights) (C := RX5) (T := TX5) (N := 33) hx hb hts inX5_seen_X5 hown hK hP 0 rfl rfl 10 (by decide) (hts (.fieldLink RX5 224 "WordScalesModel" "sights" "I") (List.mem_of_getElem? (i := 3) rfl)) (fun _ h9 => h9) rfl dX5_seen_95 ?_
                refine lv_iload_n hx hb dX5_seen_98 rfl (lv_at hl 3 rfl) ?_
                refine va_iast (D := D) (f := vsightRight) hx hb hK hP hD hS 8 0 rfl rfl v16 dX5_seen_99 (fun H locs hP hD hS => ?_)
                have hP : va_P D vwCl (mdW K q vweight vkind vrhymes vpurse vhas vwishes vwishMany (upd vsightLeft (vsights).toNatClampNeg p0) (upd vsightRight (vsights).toNatClampNeg p1) vsightHow vsights vpad vpadMany vact vwho vwhich vwhom vacts vplace vopenMany vended vspoken vheaviest vheaviestWeight vhad vbadAct vbadWhy vbrings vbringsThen vkept visKept vkeptAt visWriting) H := hP
                have hD : va_D A (mdW K q vweight vkind vrhymes vpurse vhas vwishes vwishMany (upd vsightLeft (vsights).toNatClampNeg p0) (upd vsightRight (vsights).toNatClampNeg p1) vsightHow vsights vpad vpadMany vact vwho vwhich vwhom vacts vplace vopenMany vended vspoken vheaviest vheaviestWeight vhad vbadAct vbadWhy vbrings vbringsThen vkept visKept vkeptAt visWriting) := hD
                refine lv_aload_n hx hb dX5_seen_100 rfl (lv_at hl 1 rfl) ?_
                refine va_get (D := D) (ci := 5) (v := .ref (q 9)) (C := RX5) (T := TX5) (N := 33) hx hb hts inX5_seen_X5 hown hK hP 0 rfl rfl 9 (by decide) (hts (.fieldLink RX5 34 "WordScalesModel" "sightHow" "[I") (List.mem_of_getElem? (i := 6) rfl)) (fun _ h9 => h9) rfl dX5_seen_101 ?_
                refine lv_aload_n hx hb dX5_seen_104 rfl (lv_at hl 1 rfl) ?_
                refine va_get (D := D) (ci := 5) (v := .int vsights) (C := RX5) (T := TX5) (N := 33) hx hb hts inX5_seen_X5 hown hK hP 0 rfl rfl 10 (by decide) (hts (.fieldLink RX5 224 "WordScalesModel" "sights" "I") (List.mem_of_getElem? (i := 3) rfl)) (fun _ h9 => h9) rfl dX5_seen_105 ?_
                refine lv_iload_n hx hb dX5_seen_108 rfl (lv_at hl 4 rfl) ?_
                refine va_iast (D := D) (f := vsightHow) hx hb hK hP hD hS 9 0 rfl rfl v16 dX5_seen_109 (fun H locs hP hD hS => ?_)
                have hP : va_P D vwCl (mdW K q vweight vkind vrhymes vpurse vhas vwishes vwishMany (upd vsightLeft (vsights).toNatClampNeg p0) (upd vsightRight (vsights).toNatClampNeg p1) (upd vsightHow (vsights).toNatClampNeg p2) vsights vpad vpadMany vact vwho vwhich vwhom vacts vplace vopenMany vended vspoken vheaviest vheaviestWeight vhad vbadAct vbadWhy vbrings vbringsThen vkept visKept vkeptAt visWriting) H := hP
                have hD : va_D A (mdW K q vweight vkind vrhymes vpurse vhas vwishes vwishMany (upd vsightLeft (vsights).toNatClampNeg p0) (upd vsightRight (vsights).toNatClampNeg p1) (upd vsightHow (vsights).toNatClampNeg p2) vsights vpad vpadMany vact vwho vwhich vwhom vacts vplace vopenMany vended vspoken vheaviest vheaviestWeight vhad vbadAct vbadWhy vbrings vbringsThen vkept visKept vkeptAt visWriting) := hD
                refine lv_aload_n hx hb dX5_seen_110 rfl (lv_at hl 1 rfl) ?_
                refine lv_dup hx hb dX5_seen_111 rfl ?_
                refine va_get (D := D) (ci := 5) (v := .int vsights) (C := RX5) (T := TX5) (N := 33) hx hb hts inX5_seen_X5 hown hK hP 0 rfl rfl 10 (by decide) (hts (.fieldLink RX5 224 "WordScalesModel" "sights" "I") (List.mem_of_getElem? (i := 3) rfl)) (fun _ h9 => h9) rfl dX5_seen_112 ?_
                refine lv_iconst (v := 1) hx hb dX5_seen_115 (by decide) ?_
                refine lv_iadd hx hb dX5_seen_116 ?_
                refine va_put (D := D) (ci := 5) (v := .int (vsights + 1)) (ty := .int) (C := RX5) (T := TX5) (N := 33) hx hb hts inX5_seen_X5 tyX5 tyX5_ok nmX5 hown hK hP hD hS 0 rfl rfl 10 (by decide) (hts (.fieldLink RX5 224 "WordScalesModel" "sights" "I") (List.mem_of_getElem? (i := 3) rfl)) (fun _ h9 => h9) rfl (tyX5_ok 10 (by decide)) rfl rfl (Nat.le_of_ble_eq_true rfl) dX5_seen_117 (fun H locs hP hD hS => ?_)
                have hP : va_P D vwCl (mdW K q vweight vkind vrhymes vpurse vhas vwishes vwishMany (upd vsightLeft (vsights).toNatClampNeg p0) (upd vsightRight (vsights).toNatClampNeg p1) (upd vsightHow (vsights).toNatClampNeg p2) (vsights + 1) vpad vpadMany vact vwho vwhich vwhom vacts vplace vopenMany vended vspoken vheaviest vheaviestWeight vhad vbadAct vbadWhy vbrings vbringsThen vkept visKept vkeptAt visWriting) H := hP
                have hD : va_D A (mdW K q vweight vkind vrhymes vpurse vhas vwishes vwishMany (upd vsightLeft (vsights).toNatClampNeg p0) (upd vsightRight (vsights).toNatClampNeg p1) (upd vsightHow (vsights).toNatClampNeg p2) (vsights + 1) vpad vpadMany vact vwho vwhich vwhom vacts vplace vopenMany vended vspoken vheaviest vheaviestWeight vhad vbadAct vbadWhy vbrings vbringsThen vkept visKept vkeptAt visWriting) := hD
                refine lv_aload_n hx hb dX5_seen_120 rfl (lv_at hl 1 rfl) ?_
                refine va_get (D := D) (ci := 5) (v := .int (vsights + 1)) (C := RX5) (T := TX5) (N := 33) hx hb hts inX5_seen_X5 hown hK hP 0 rfl rfl 10 (by decide) (hts (.fieldLink RX5 224 "WordScalesModel" "sights" "I") (List.mem_of_getElem? (i := 3) rfl)) (fun _ h9 => h9) rfl dX5_seen_121 ?_
                obtain rfl := Option.some.inj hf
                exact hret rfl rfl rfl hP hD hS dX5_seen_124
              · rw [if_pos c15] at hf
                refine lv_bipush (v := (-4)) hx hb dX5_seen_77 (by decide) ?_
                obtain rfl := Option.some.inj hf
                exact hret rfl rfl rfl hP hD hS dX5_seen_79
            · rw [if_neg c14] at hf
              refine lv_bipush (v := (-2)) hx hb dX5_seen_65 (by decide) ?_
              obtain rfl := Option.some.inj hf
              exact hret rfl rfl rfl hP hD hS dX5_seen_67
def f_X5_forget (vsights : Int32) : Int32 × Int32 := (vsights, 0)
theorem inX5_forget_X5 : ∀ w ∈ wsX50, w ∈ wsX5_forget := fun w h => List.mem_cons_of_mem _ (List.mem_append_right _ h)
theorem yd_X5_forget : yX5_forget.cls ≠ "java/lang/invoke/MethodHandle" ∧ yX5_forget.cls ≠ "java/lang/invoke/VarHandle" ∧ (parseMethodDescriptor yX5_forget.desc).map (fun d => d.parameters.length) = some 0 := by decide +kernel
abbrev rmX5_forget : Room := { frames := 0, cells := 0, slots := 0, locals := 0 }
set_option maxHeartbeats 4000000 in
set_option maxRecDepth 100000 in
theorem k_X5_forget (l : Launch) (D : va_G) (K : Nat → ClassId) (q : Nat → Nat) (vweight : Nat → Int32) (vkind : Nat → Int32) (vrhymes : Nat → Int32) (vpurse : Nat → Int32) (vhas : Nat → Int32) (vwishes : Nat → Int32) (vwishMany : Int32) (vsightLeft : Nat → Int32) (vsightRight : Nat → Int32) (vsightHow : Nat → Int32) (vsights : Int32) (vpad : Nat → Int32) (vpadMany : Int32) (vact : Nat → Int32) (vwho : Nat → Int32) (vwhich : Nat → Int32) (vwhom : Nat → Int32) (vacts : Int32) (vplace : Int32) (vopenMany : Int32) (vended : Int32) (vspoken : Int32) (vheaviest : Int32) (vheaviestWeight : Int32) (vhad : Nat → Int32) (vbadAct : Int32) (vbadWhy : Int32) (vbrings : Nat → Int64) (vbringsThen : Nat → Int64) (vkept : Nat → Int32) (visKept : Nat → Int32) (vkeptAt : Int32) (visWriting : Int32) (out : Int32 × Int32) (hf : f_X5_forget vsights = out) : kI l D K .int yX5_forget wsX5_forget rmX5_forget [.ref (q 0)] (mdW K q vweight vkind vrhymes vpurse vhas vwishes vwishMany vsightLeft vsightRight vsightHow vsights vpad vpadMany vact vwho vwhich vwhom vacts vplace vopenMany vended vspoken vheaviest vheaviestWeight vhad vbadAct vbadWhy vbrings vbringsThen vkept visKept vkeptAt visWriting) out.1 (mdW K q vweight vkind vrhymes vpurse vhas vwishes vwishMany vsightLeft vsightRight vsightHow out.2 vpad vpadMany vact vwho vwhich vwhom vacts vplace vopenMany vended vspoken vheaviest vheaviestWeight vhad vbadAct vbadWhy vbrings vbringsThen vkept visKept vkeptAt visWriting) := by
  refine kI.of (cc := cX5_forget) (maxL := 2) (by decide) rfl (Nat.le_of_ble_eq_true rfl) ?_
  intro p e s m args below meth c A H0 Q ls hx hb hml hown hts hK hN hA hP hD hS hl hret
  have hown : s.vm.findClass RX5 = some m.cls := hown
  have hl : lv_has ls 2 [(0, .ref (q 0))] := hl
  generalize hH : H0 = H at hP ⊢
  have hS : va_S A H0 H [] := by rw [← hH]; exact hS
  clear hH
  unfold f_X5_forget at hf
  refine lv_aload_n hx hb dX5_forget_0 rfl (lv_at hl 0 rfl) ?_
  refine va_get (D := D) (ci := 5) (v := .int vsights) (C := RX5) (T := TX5) (N := 33) hx hb hts inX5_forget_X5 hown hK hP 0 rfl rfl 10 (by decide) (hts (.fieldLink RX5 224 "WordScalesModel" "sights" "I") (List.mem_of_getElem? (i := 1) rfl)) (fun _ h9 => h9) rfl dX5_forget_1 ?_
  refine lv_istore_n (lv' := [(1, .int vsights), (0, .ref (q 0))]) hx hb dX5_forget_4 rfl hl (by decide) rfl (fun ls hl => ?_)
  refine lv_aload_n hx hb dX5_forget_5 rfl (lv_at hl 1 rfl) ?_
  refine lv_iconst (v := 0) hx hb dX5_forget_6 (by decide) ?_
  refine va_put (D := D) (ci := 5) (v := .int 0) (ty := .int) (C := RX5) (T := TX5) (N := 33) hx hb hts inX5_forget_X5 tyX5 tyX5_ok nmX5 hown hK hP hD hS 0 rfl rfl 10 (by decide) (hts (.fieldLink RX5 224 "WordScalesModel" "sights" "I") (List.mem_of_getElem? (i := 1) rfl)) (fun _ h9 => h9) rfl (tyX5_ok 10 (by decide)) rfl rfl (Nat.le_of_ble_eq_true rfl) dX5_forget_7 (fun H locs hP hD hS => ?_)
  have hP : va_P D vwCl (mdW K q vweight vkind vrhymes vpurse vhas vwishes vwishMany vsightLeft vsightRight vsightHow 0 vpad vpadMany vact vwho vwhich vwhom vacts vplace vopenMany vended vspoken vheaviest vheaviestWeight vhad vbadAct vbadWhy vbrings vbringsThen vkept visKept vkeptAt visWriting) H := hP
  have hD : va_D A (mdW K q vweight vkind vrhymes vpurse vhas vwishes vwishMany vsightLeft vsightRight vsightHow 0 vpad vpadMany vact vwho vwhich vwhom vacts vplace vopenMany vended vspoken vheaviest vheaviestWeight vhad vbadAct vbadWhy vbrings vbringsThen vkept visKept vkeptAt visWriting) := hD
  refine lv_iload_n hx hb dX5_forget_10 rfl (lv_at hl 0 rfl) ?_
  subst hf
  exact hret rfl rfl rfl hP hD hS dX5_forget_11
def s_X5_hollow_6 (vsightLeft : Nat → Int32) (vsightRight : Nat → Int32) (vsightHow : Nat → Int32) (vsights : Int32) (x : Int32 × Int32) : Option ((Int32 × Int32) ⊕ (Int32 × Int32)) := if vsights ≤ x.2 then (some (.inr (x.1, x.2))) else (chk x.2 6 (if (vsightHow (x.2).toNatClampNeg) = 0 then (some (.inl ((x.1 &&& (vsightLeft (x.2).toNatClampNeg)), (x.2 + 1)))) else (if (vsightHow (x.2).toNatClampNeg) = 1 then (some (.inl ((x.1 &&& (vsightRight (x.2).toNatClampNeg)), (x.2 + 1)))) else (some (.inl ((x.1 &&& (4095 &&& (((vsightLeft (x.2).toNatClampNeg) ||| (vsightRight (x.2).toNatClampNeg)) ^^^ (-1)))), (x.2 + 1)))))))
def f_X5_hollow (vsightLeft : Nat → Int32) (vsightRight : Nat → Int32) (vsightHow : Nat → Int32) (vsights : Int32) : Option (Int32) := ob (wh (s_X5_hollow_6 vsightLeft vsightRight vsightHow vsights) 5000 (4095, 0)) (fun r1 => some r1.1)
theorem inX5_hollow_X5 : ∀ w ∈ wsX50, w ∈ wsX5_hollow := fun w h => List.mem_cons_of_mem _ (List.mem_append_right _ h)
theorem yd_X5_hollow : yX5_hollow.cls ≠ "java/lang/invoke/MethodHandle" ∧ yX5_hollow.cls ≠ "java/lang/invoke/VarHandle" ∧ (parseMethodDescriptor yX5_hollow.desc).map (fun d => d.parameters.length) = some 0 := by decide +kernel
abbrev rmX5_hollow : Room := { frames := 0, cells := 0, slots := 0, locals := 0 }
set_option maxHeartbeats 4000000 in
set_option maxRecDepth 100000 in
theorem k_X5_hollow (l : Launch) (D : va_G) (K : Nat → ClassId) (q : Nat → Nat) (vweight : Nat → Int32) (vkind : Nat → Int32) (vrhymes : Nat → Int32) (vpurse : Nat → Int32) (vhas : Nat → Int32) (vwishes : Nat → Int32) (vwishMany : Int32) (vsightLeft : Nat → Int32) (vsightRight : Nat → Int32) (vsightHow : Nat → Int32) (vsights : Int32) (vpad : Nat → Int32) (vpadMany : Int32) (vact : Nat → Int32) (vwho : Nat → Int32) (vwhich : Nat → Int32) (vwhom : Nat → Int32) (vacts : Int32) (vplace : Int32) (vopenMany : Int32) (vended : Int32) (vspoken : Int32) (vheaviest : Int32) (vheaviestWeight : Int32) (vhad : Nat → Int32) (vbadAct : Int32) (vbadWhy : Int32) (vbrings : Nat → Int64) (vbringsThen : Nat → Int64) (vkept : Nat → Int32) (visKept : Nat → Int32) (vkeptAt : Int32) (visWriting : Int32) (out : Int32) (hf : f_X5_hollow vsightLeft vsightRight vsightHow vsights = some out) : kI l D K .int yX5_hollow wsX5_hollow rmX5_hollow [.ref (q 0)] (mdW K q vweight vkind vrhymes vpurse vhas vwishes vwishMany vsightLeft vsightRight vsightHow vsights vpad vpadMany vact vwho vwhich vwhom vacts vplace vopenMany vended vspoken vheaviest vheaviestWeight vhad vbadAct vbadWhy vbrings vbringsThen vkept visKept vkeptAt visWriting) out (mdW K q vweight vkind vrhymes vpurse vhas vwishes vwishMany vsightLeft vsightRight vsightHow vsights vpad vpadMany vact vwho vwhich vwhom vacts vplace vopenMany vended vspoken vheaviest vheaviestWeight vhad vbadAct vbadWhy vbrings vbringsThen vkept visKept vkeptAt visWriting) := by
  refine kI.of (cc := cX5_hollow) (maxL := 4) (by decide) rfl (Nat.le_of_ble_eq_true rfl) ?_
  intro p e s m args below meth c A H0 Q ls hx hb hml hown hts hK hN hA hP hD hS hl hret
  have hown : s.vm.findClass RX5 = some m.cls := hown
  have hl : lv_has ls 4 [(0, .ref (q 0))] := hl
  generalize hH : H0 = H at hP ⊢
  have hS : va_S A H0 H [] := by rw [← hH]; exact hS
  clear hH
  unfold f_X5_hollow at hf
  refine lv_sipush (v := 4095) hx hb dX5_hollow_0 (by decide) ?_
  refine lv_istore_n (lv' := [(1, .int 4095), (0, .ref (q 0))]) hx hb dX5_hollow_3 rfl hl (by decide) rfl (fun ls hl => ?_)
  refine lv_iconst (v := 0) hx hb dX5_hollow_4 (by decide) ?_
  refine lv_istore_n (lv' := [(2, .int 0), (1, .int 4095), (0, .ref (q 0))]) hx hb dX5_hollow_5 rfl hl (by decide) rfl (fun ls hl => ?_)
  obtain ⟨r1, hr1, hf⟩ := ob_el hf
  have post6 : ∀ (e6_l1 : Int32) (e6_l2 : Int32) (H : Heap) (locs : List Loc) (ls : Array Slot), (some e6_l1) = some out → va_P D vwCl (mdW K q vweight vkind vrhymes vpurse vhas vwishes vwishMany vsightLeft vsightRight vsightHow vsights vpad vpadMany vact vwho vwhich vwhom vacts vplace vopenMany vended vspoken vheaviest vheaviestWeight vhad vbadAct vbadWhy vbrings vbringsThen vkept visKept vkeptAt visWriting) H → va_D A (mdW K q vweight vkind vrhymes vpurse vhas vwishes vwishMany vsightLeft vsightRight vsightHow vsights vpad vpadMany vact vwho vwhich vwhom vacts vplace vopenMany vended vspoken vheaviest vheaviestWeight vhad vbadAct vbadWhy vbrings vbringsThen vkept visKept vkeptAt visWriting) → va_S A H0 H locs → lv_has ls 4 [(2, .int e6_l2), (1, .int e6_l1), (0, .ref (q 0))] → W p l e rmX5_hollow s m args below meth c H locs 0 0 Q (F0 m 81 ls []) := by
    intro e6_l1 e6_l2 H locs ls hf hP hD hS hl
    refine lv_iload_n hx hb dX5_hollow_81 rfl (lv_at hl 1 rfl) ?_
    obtain rfl := Option.some.inj hf
    exact hret rfl rfl rfl hP hD hS dX5_hollow_82
  have lp6 : ∀ (fu : Nat) (x6_l1 : Int32) (x6_l2 : Int32) (H : Heap) (locs : List Loc) (ls : Array Slot), wh (s_X5_hollow_6 vsightLeft vsightRight vsightHow vsights) fu (x6_l1, x6_l2) = some r1 → va_P D vwCl (mdW K q vweight vkind vrhymes vpurse vhas vwishes vwishMany vsightLeft vsightRight vsightHow vsights vpad vpadMany vact vwho vwhich vwhom vacts vplace vopenMany vended vspoken vheaviest vheaviestWeight vhad vbadAct vbadWhy vbrings vbringsThen vkept visKept vkeptAt visWriting) H → va_D A (mdW K q vweight vkind vrhymes vpurse vhas vwishes vwishMany vsightLeft vsightRight vsightHow vsights vpad vpadMany vact vwho vwhich vwhom vacts vplace vopenMany vended vspoken vheaviest vheaviestWeight vhad vbadAct vbadWhy vbrings vbringsThen vkept visKept vkeptAt visWriting) → va_S A H0 H locs → lv_has ls 4 [(2, .int x6_l2), (1, .int x6_l1), (0, .ref (q 0))] → W p l e rmX5_hollow s m args below meth c H locs 0 0 Q (F0 m 6 ls []) := by
    intro fu
    induction fu with
    | zero => intro x6_l1 x6_l2 H locs ls hw6; cases hw6
    | succ fu ih6 =>
      intro x6_l1 x6_l2 H locs ls hw6 hP hD hS hl
      obtain ⟨o6_, hs6, hw6⟩ := wh_el hw6
      unfold s_X5_hollow_6 at hs6
      dsimp only at hs6
      refine lv_iload_n hx hb dX5_hollow_6 rfl (lv_at hl 0 rfl) ?_
      refine lv_aload_n hx hb dX5_hollow_7 rfl (lv_at hl 2 rfl) ?_
      refine va_get (D := D) (ci := 5) (v := .int vsights) (C := RX5) (T := TX5) (N := 33) hx hb hts inX5_hollow_X5 hown hK hP 0 rfl rfl 10 (by decide) (hts (.fieldLink RX5 224 "WordScalesModel" "sights" "I") (List.mem_of_getElem? (i := 1) rfl)) (fun _ h9 => h9) rfl dX5_hollow_8 ?_
      refine lv_icmp_ge (tgt := 81) hx hb dX5_hollow_11 (by decide) (fun c2 => ?_) (fun c2 => ?_)
      · rw [if_pos c2] at hs6
        obtain rfl := Option.some.inj hs6
        have e9 := Option.some.inj hw6
        rw [← e9] at hf
        exact post6 _ _ _ _ _ hf hP hD hS (lv_sub hl [0, 1, 2] rfl)
      · rw [if_neg c2] at hs6
        refine lv_aload_n hx hb dX5_hollow_14 rfl (lv_at hl 2 rfl) ?_
        refine va_get (D := D) (ci := 5) (v := .ref (q 7)) (C := RX5) (T := TX5) (N := 33) hx hb hts inX5_hollow_X5 hown hK hP 0 rfl rfl 7 (by decide) (hts (.fieldLink RX5 28 "WordScalesModel" "sightLeft" "[I") (List.mem_of_getElem? (i := 2) rfl)) (fun _ h9 => h9) rfl dX5_hollow_15 ?_
        refine lv_iload_n hx hb dX5_hollow_18 rfl (lv_at hl 0 rfl) ?_
        obtain ⟨v3, hs6⟩ := chk_el hs6
        refine va_iald (D := D) (f := vsightLeft) hx hb hK hP 7 0 rfl rfl v3 dX5_hollow_19 ?_
        refine lv_aload_n hx hb dX5_hollow_20 rfl (lv_at hl 2 rfl) ?_
        refine va_get (D := D) (ci := 5) (v := .ref (q 8)) (C := RX5) (T := TX5) (N := 33) hx hb hts inX5_hollow_X5 hown hK hP 0 rfl rfl 8 (by decide) (hts (.fieldLink RX5 31 "WordScalesModel" "sightRight" "[I") (List.mem_of_getElem? (i := 3) rfl)) (fun _ h9 => h9) rfl dX5_hollow_21 ?_
        refine lv_iload_n hx hb dX5_hollow_24 rfl (lv_at hl 0 rfl) ?_
        refine va_iald (D := D) (f := vsightRight) hx hb hK hP 8 0 rfl rfl v3 dX5_hollow_25 ?_
        refine lv_ior hx hb dX5_hollow_26 ?_
        refine lv_istore_n (lv' := [(3, .int ((vsightLeft (x6_l2).toNatClampNeg) ||| (vsightRight (x6_l2).toNatClampNeg))), (2, .int x6_l2), (1, .int x6_l1), (0, .ref (q 0))]) hx hb dX5_hollow_27 rfl hl (by decide) rfl (fun ls hl => ?_)
        refine lv_iload_n hx hb dX5_hollow_28 rfl (lv_at hl 2 rfl) ?_
        refine lv_aload_n hx hb dX5_hollow_29 rfl (lv_at hl 3 rfl) ?_
        refine va_get (D := D) (ci := 5) (v := .ref (q 9)) (C := RX5) (T := TX5) (N := 33) hx hb hts inX5_hollow_X5 hown hK hP 0 rfl rfl 9 (by decide) (hts (.fieldLink RX5 34 "WordScalesModel" "sightHow" "[I") (List.mem_of_getElem? (i := 4) rfl)) (fun _ h9 => h9) rfl dX5_hollow_30 ?_
        refine lv_iload_n hx hb dX5_hollow_33 rfl (lv_at hl 1 rfl) ?_
        refine va_iald (D := D) (f := vsightHow) hx hb hK hP 9 0 rfl rfl v3 dX5_hollow_34 ?_
        refine lv_if_ne (tgt := 47) hx hb dX5_hollow_35 (by decide) (fun c4 => ?_) (fun c4 => ?_)
        · rw [if_neg c4] at hs6
          refine lv_aload_n hx hb dX5_hollow_47 rfl (lv_at hl 3 rfl) ?_
          refine va_get (D := D) (ci := 5) (v := .ref (q 9)) (C := RX5) (T := TX5) (N := 33) hx hb hts inX5_hollow_X5 hown hK hP 0 rfl rfl 9 (by decide) (hts (.fieldLink RX5 34 "WordScalesModel" "sightHow" "[I") (List.mem_of_getElem? (i := 4) rfl)) (fun _ h9 => h9) rfl dX5_hollow_48 ?_
          refine lv_iload_n hx hb dX5_hollow_51 rfl (lv_at hl 1 rfl) ?_
          refine va_iald (D := D) (f := vsightHow) hx hb hK hP 9 0 rfl rfl v3 dX5_hollow_52 ?_
          refine lv_iconst (v := 1) hx hb dX5_hollow_53 (by decide) ?_
          refine lv_icmp_ne (tgt := 66) hx hb dX5_hollow_54 (by decide) (fun c5 => ?_) (fun c5 => ?_)
          · rw [if_neg c5] at hs6
            refine lv_sipush (v := 4095) hx hb dX5_hollow_66 (by decide) ?_
            refine lv_iload_n hx hb dX5_hollow_69 rfl (lv_at hl 0 rfl) ?_
            refine lv_iconst (v := (-1)) hx hb dX5_hollow_70 (by decide) ?_
            refine lv_ixor hx hb dX5_hollow_71 ?_
            refine lv_iand hx hb dX5_hollow_72 ?_
            refine lv_iand hx hb dX5_hollow_73 ?_
            refine lv_istore_n (lv' := [(1, .int (x6_l1 &&& (4095 &&& (((vsightLeft (x6_l2).toNatClampNeg) ||| (vsightRight (x6_l2).toNatClampNeg)) ^^^ (-1))))), (3, .int ((vsightLeft (x6_l2).toNatClampNeg) ||| (vsightRight (x6_l2).toNatClampNeg))), (2, .int x6_l2), (0, .ref (q 0))]) hx hb dX5_hollow_74 rfl hl (by decide) rfl (fun ls hl => ?_)
            refine lv_iinc (v := (x6_l2 + 1)) (lv' := [(2, .int (x6_l2 + 1)), (1, .int (x6_l1 &&& (4095 &&& (((vsightLeft (x6_l2).toNatClampNeg) ||| (vsightRight (x6_l2).toNatClampNeg)) ^^^ (-1))))), (3, .int ((vsightLeft (x6_l2).toNatClampNeg) ||| (vsightRight (x6_l2).toNatClampNeg))), (0, .ref (q 0))]) hx hb dX5_hollow_75 hl (k := 2) rfl (by rfl) (by decide) rfl (fun ls hl => ?_)
            refine lv_goto (tgt := 6) hx hb dX5_hollow_78 (by decide) ?_
            obtain rfl := Option.some.inj hs6
            exact ih6 _ _ _ _ _ hw6 hP hD hS (lv_sub hl [0, 1, 3] rfl)
          · rw [if_pos c5] at hs6
            refine lv_aload_n hx hb dX5_hollow_57 rfl (lv_at hl 3 rfl) ?_
            refine va_get (D := D) (ci := 5) (v := .ref (q 8)) (C := RX5) (T := TX5) (N := 33) hx hb hts inX5_hollow_X5 hown hK hP 0 rfl rfl 8 (by decide) (hts (.fieldLink RX5 31 "WordScalesModel" "sightRight" "[I") (List.mem_of_getElem? (i := 3) rfl)) (fun _ h9 => h9) rfl dX5_hollow_58 ?_
            refine lv_iload_n hx hb dX5_hollow_61 rfl (lv_at hl 1 rfl) ?_
            refine va_iald (D := D) (f := vsightRight) hx hb hK hP 8 0 rfl rfl v3 dX5_hollow_62 ?_
            refine lv_goto (tgt := 73) hx hb dX5_hollow_63 (by decide) ?_
            refine lv_iand hx hb dX5_hollow_73 ?_
            refine lv_istore_n (lv' := [(1, .int (x6_l1 &&& (vsightRight (x6_l2).toNatClampNeg))), (3, .int ((vsightLeft (x6_l2).toNatClampNeg) ||| (vsightRight (x6_l2).toNatClampNeg))), (2, .int x6_l2), (0, .ref (q 0))]) hx hb dX5_hollow_74 rfl hl (by decide) rfl (fun ls hl => ?_)
            refine lv_iinc (v := (x6_l2 + 1)) (lv' := [(2, .int (x6_l2 + 1)), (1, .int (x6_l1 &&& (vsightRight (x6_l2).toNatClampNeg))), (3, .int ((vsightLeft (x6_l2).toNatClampNeg) ||| (vsightRight (x6_l2).toNatClampNeg))), (0, .ref (q 0))]) hx hb dX5_hollow_75 hl (k := 2) rfl (by rfl) (by decide) rfl (fun ls hl => ?_)
            refine lv_goto (tgt := 6) hx hb dX5_hollow_78 (by decide) ?_
            obtain rfl := Option.some.inj hs6
            exact ih6 _ _ _ _ _ hw6 hP hD hS (lv_sub hl [0, 1, 3] rfl)
        · rw [if_pos c4] at hs6
          refine lv_aload_n hx hb dX5_hollow_38 rfl (lv_at hl 3 rfl) ?_
          refine va_get (D := D) (ci := 5) (v := .ref (q 7)) (C := RX5) (T := TX5) (N := 33) hx hb hts inX5_hollow_X5 hown hK hP 0 rfl rfl 7 (by decide) (hts (.fieldLink RX5 28 "WordScalesModel" "sightLeft" "[I") (List.mem_of_getElem? (i := 2) rfl)) (fun _ h9 => h9) rfl dX5_hollow_39 ?_
          refine lv_iload_n hx hb dX5_hollow_42 rfl (lv_at hl 1 rfl) ?_
          refine va_iald (D := D) (f := vsightLeft) hx hb hK hP 7 0 rfl rfl v3 dX5_hollow_43 ?_
          refine lv_goto (tgt := 73) hx hb dX5_hollow_44 (by decide) ?_
          refine lv_iand hx hb dX5_hollow_73 ?_
          refine lv_istore_n (lv' := [(1, .int (x6_l1 &&& (vsightLeft (x6_l2).toNatClampNeg))), (3, .int ((vsightLeft (x6_l2).toNatClampNeg) ||| (vsightRight (x6_l2).toNatClampNeg))), (2, .int x6_l2), (0, .ref (q 0))]) hx hb dX5_hollow_74 rfl hl (by decide) rfl (fun ls hl => ?_)
          refine lv_iinc (v := (x6_l2 + 1)) (lv' := [(2, .int (x6_l2 + 1)), (1, .int (x6_l1 &&& (vsightLeft (x6_l2).toNatClampNeg))), (3, .int ((vsightLeft (x6_l2).toNatClampNeg) ||| (vsightRight (x6_l2).toNatClampNeg))), (0, .ref (q 0))]) hx hb dX5_hollow_75 hl (k := 2) rfl (by rfl) (by decide) rfl (fun ls hl => ?_)
          refine lv_goto (tgt := 6) hx hb dX5_hollow_78 (by decide) ?_
          obtain rfl := Option.some.inj hs6
          exact ih6 _ _ _ _ _ hw6 hP hD hS (lv_sub hl [0, 1, 3] rfl)
  exact lp6 5000 _ _ _ _ _ hr1 hP hD hS (lv_sub hl [0, 1, 2] rfl)
def f_X5_worse (p0 : Int32) (p1 : Int32) : Int32 := if p1 ≤ (p0 - (2 * p1)) then ((p0 - (2 * p1))) else (p1)
theorem yd_X5_worse : yX5_worse.cls ≠ "java/lang/invoke/MethodHandle" ∧ yX5_worse.cls ≠ "java/lang/invoke/VarHandle" ∧ (parseMethodDescriptor yX5_worse.desc).map (fun d => d.parameters.length) = some 2 := by decide +kernel
abbrev rmX5_worse : Room := { frames := 0, cells := 0, slots := 0, locals := 0 }
set_option maxHeartbeats 4000000 in
set_option maxRecDepth 100000 in
theorem k_X5_worse (l : Launch) (D : va_G) (K : Nat → ClassId) (p0 : Int32) (p1 : Int32) (out : Int32) (hf : f_X5_worse p0 p1 = out) : kI l D K .int yX5_worse wsX5_worse rmX5_worse [.int p0, .int p1] ([] : va_W) out ([] : va_W) := by
  refine kI.of (cc := cX5_worse) (maxL := 2) (by decide) rfl (Nat.le_of_ble_eq_true rfl) ?_
  intro p e s m args below meth c A H0 Q ls hx hb hml hown hts hK hN hA hP hD hS hl hret
  have hown : s.vm.findClass RX5 = some m.cls := hown
  have hl : lv_has ls 2 [(0, .int p0), (1, .int p1)] := hl
  generalize hH : H0 = H at hP ⊢
  have hS : va_S A H0 H [] := by rw [← hH]; exact hS
  clear hH
  unfold f_X5_worse at hf
  refine lv_iload_n hx hb dX5_worse_0 rfl (lv_at hl 1 rfl) ?_
  refine lv_iload_n hx hb dX5_worse_1 rfl (lv_at hl 0 rfl) ?_
  refine lv_iconst (v := 2) hx hb dX5_worse_2 (by decide) ?_
  refine lv_iload_n hx hb dX5_worse_3 rfl (lv_at hl 1 rfl) ?_
  refine lv_imul hx hb dX5_worse_4 ?_
  refine lv_isub hx hb dX5_worse_5 ?_
  refine lv_icmp_le (tgt := 13) hx hb dX5_worse_6 (by decide) (fun c1 => ?_) (fun c1 => ?_)
  · rw [if_pos c1] at hf
    refine lv_iload_n hx hb dX5_worse_13 rfl (lv_at hl 0 rfl) ?_
    refine lv_iconst (v := 2) hx hb dX5_worse_14 (by decide) ?_
    refine lv_iload_n hx hb dX5_worse_15 rfl (lv_at hl 1 rfl) ?_
    refine lv_imul hx hb dX5_worse_16 ?_
    refine lv_isub hx hb dX5_worse_17 ?_
    subst hf
    exact hret rfl rfl rfl hP hD hS dX5_worse_18
  · rw [if_neg c1] at hf
    refine lv_iload_n hx hb dX5_worse_9 rfl (lv_at hl 1 rfl) ?_
    refine lv_goto (tgt := 18) hx hb dX5_worse_10 (by decide) ?_
    subst hf
    exact hret rfl rfl rfl hP hD hS dX5_worse_18
def s_X5_turnsFor_4 (p0 : Int32) (x : Int32 × Int32) : Option ((Int32 × Int32) ⊕ (Int32 × Int32)) := if p0 ≤ x.2 then (some (.inr (x.1, x.2))) else (some (.inl ((x.1 + 1), (x.2 * 3))))
def f_X5_turnsFor (p0 : Int32) : Option (Int32) := ob (wh (s_X5_turnsFor_4 p0) 5000 (0, 1)) (fun r1 => some r1.1)
theorem yd_X5_turnsFor : yX5_turnsFor.cls ≠ "java/lang/invoke/MethodHandle" ∧ yX5_turnsFor.cls ≠ "java/lang/invoke/VarHandle" ∧ (parseMethodDescriptor yX5_turnsFor.desc).map (fun d => d.parameters.length) = some 1 := by decide +kernel
abbrev rmX5_turnsFor : Room := { frames := 0, cells := 0, slots := 0, locals := 0 }
set_option maxHeartbeats 4000000 in
set_option maxRecDepth 100000 in
theorem k_X5_turnsFor (l : Launch) (D : va_G) (K : Nat → ClassId) (p0 : Int32) (out : Int32) (hf : f_X5_turnsFor p0 = some out) : kI l D K .int yX5_turnsFor wsX5_turnsFor rmX5_turnsFor [.int p0] ([] : va_W) out ([] : va_W) := by
  refine kI.of (cc := cX5_turnsFor) (maxL := 3) (by decide) rfl (Nat.le_of_ble_eq_true rfl) ?_
  intro p e s m args below meth c A H0 Q ls hx hb hml hown hts hK hN hA hP hD hS hl hret
  have hown : s.vm.findClass RX5 = some m.cls := hown
  have hl : lv_has ls 3 [(0, .int p0)] := hl
  generalize hH : H0 = H at hP ⊢
  have hS : va_S A H0 H [] := by rw [← hH]; exact hS
  clear hH
  unfold f_X5_turnsFor at hf
  refine lv_iconst (v := 0) hx hb dX5_turnsFor_0 (by decide) ?_
  refine lv_istore_n (lv' := [(1, .int 0), (0, .int p0)]) hx hb dX5_turnsFor_1 rfl hl (by decide) rfl (fun ls hl => ?_)
  refine lv_iconst (v := 1) hx hb dX5_turnsFor_2 (by decide) ?_
  refine lv_istore_n (lv' := [(2, .int 1), (1, .int 0), (0, .int p0)]) hx hb dX5_turnsFor_3 rfl hl (by decide) rfl (fun ls hl => ?_)
  obtain ⟨r1, hr1, hf⟩ := ob_el hf
  have post4 : ∀ (e4_l1 : Int32) (e4_l2 : Int32) (H : Heap) (locs : List Loc) (ls : Array Slot), (some e4_l1) = some out → va_P D vwCl ([] : va_W) H → va_D A ([] : va_W) → va_S A H0 H locs → lv_has ls 3 [(2, .int e4_l2), (1, .int e4_l1), (0, .int p0)] → W p l e rmX5_turnsFor s m args below meth c H locs 0 0 Q (F0 m 19 ls []) := by
    intro e4_l1 e4_l2 H locs ls hf hP hD hS hl
    refine lv_iload_n hx hb dX5_turnsFor_19 rfl (lv_at hl 1 rfl) ?_
    obtain rfl := Option.some.inj hf
    exact hret rfl rfl rfl hP hD hS dX5_turnsFor_20
  have lp4 : ∀ (fu : Nat) (x4_l1 : Int32) (x4_l2 : Int32) (H : Heap) (locs : List Loc) (ls : Array Slot), wh (s_X5_turnsFor_4 p0) fu (x4_l1, x4_l2) = some r1 → va_P D vwCl ([] : va_W) H → va_D A ([] : va_W) → va_S A H0 H locs → lv_has ls 3 [(2, .int x4_l2), (1, .int x4_l1), (0, .int p0)] → W p l e rmX5_turnsFor s m args below meth c H locs 0 0 Q (F0 m 4 ls []) := by
    intro fu
    induction fu with
    | zero => intro x4_l1 x4_l2 H locs ls hw4; cases hw4
    | succ fu ih4 =>
      intro x4_l1 x4_l2 H locs ls hw4 hP hD hS hl
      obtain ⟨o4_, hs4, hw4⟩ := wh_el hw4
      unfold s_X5_turnsFor_4 at hs4
      dsimp only at hs4
      refine lv_iload_n hx hb dX5_turnsFor_4 rfl (lv_at hl 0 rfl) ?_
      refine lv_iload_n hx hb dX5_turnsFor_5 rfl (lv_at hl 2 rfl) ?_
      refine lv_icmp_ge (tgt := 19) hx hb dX5_turnsFor_6 (by decide) (fun c2 => ?_) (fun c2 => ?_)
      · rw [if_pos c2] at hs4
        obtain rfl := Option.some.inj hs4
        have e9 := Option.some.inj hw4
        rw [← e9] at hf
        exact post4 _ _ _ _ _ hf hP hD hS (lv_sub hl [0, 1, 2] rfl)
      · rw [if_neg c2] at hs4
        refine lv_iinc (v := (x4_l1 + 1)) (lv' := [(1, .int (x4_l1 + 1)), (2, .int x4_l2), (0, .int p0)]) hx hb dX5_turnsFor_9 hl (k := 1) rfl (by rfl) (by decide) rfl (fun ls hl => ?_)
        refine lv_iload_n hx hb dX5_turnsFor_12 rfl (lv_at hl 1 rfl) ?_
        refine lv_iconst (v := 3) hx hb dX5_turnsFor_13 (by decide) ?_
        refine lv_imul hx hb dX5_turnsFor_14 ?_
        refine lv_istore_n (lv' := [(2, .int (x4_l2 * 3)), (1, .int (x4_l1 + 1)), (0, .int p0)]) hx hb dX5_turnsFor_15 rfl hl (by decide) rfl (fun ls hl => ?_)
        refine lv_goto (tgt := 4) hx hb dX5_turnsFor_16 (by decide) ?_
        obtain rfl := Option.some.inj hs4
        exact ih4 _ _ _ _ _ hw4 hP hD hS (lv_sub hl [0, 1, 2] rfl)
  exact lp4 5000 _ _ _ _ _ hr1 hP hD hS (lv_sub hl [0, 1, 2] rfl)
def s_X5_lay_45 (o4 : Int32) (x : Int32 × Int32) : Option ((Int32 × Int32) ⊕ (Int32 × Int32)) := if o4 < (2 * x.2) then (some (.inr (x.1, x.2))) else (bd (f_X5_worse o4 x.2) (fun o11 => bd (f_X5_worse o4 x.1) (fun o12 => if o12 ≤ o11 then (some (.inl (x.1, (x.2 + 1)))) else (some (.inl (x.2, (x.2 + 1)))))))
def f_X5_lay (vsightLeft : Nat → Int32) (vsightRight : Nat → Int32) (vsightHow : Nat → Int32) (vsights : Int32) (p0 : Int32) : Option (Int32) := bd (f_X5_in p0.toInt64 (0) (2)) (fun o1 => if o1 = 0 then (some (-2)) else (ob (f_X5_hollow vsightLeft vsightRight vsightHow vsights) (fun o3 => ob (f_X5_ones o3) (fun o4 => if p0 = 2 then (ob (f_X5_turnsFor o4) (fun o14 => some o14)) else (if o4 = 0 then (some (-6)) else (ob (wh (s_X5_lay_45 o4) 5000 (0, 1)) (fun r7 => if p0 = 0 then (some r7.1) else (bd (f_X5_worse o4 r7.1) (fun o9 => some o9)))))))))
theorem yd_X5_lay : yX5_lay.cls ≠ "java/lang/invoke/MethodHandle" ∧ yX5_lay.cls ≠ "java/lang/invoke/VarHandle" ∧ (parseMethodDescriptor yX5_lay.desc).map (fun d => d.parameters.length) = some 1 := by decide +kernel
abbrev rmX5_lay : Room := { frames := 1, cells := 0, slots := 0, locals := 25 }
set_option maxHeartbeats 4000000 in
set_option maxRecDepth 100000 in
theorem k_X5_lay (l : Launch) (D : va_G) (K : Nat → ClassId) (q : Nat → Nat) (vweight : Nat → Int32) (vkind : Nat → Int32) (vrhymes : Nat → Int32) (vpurse : Nat → Int32) (vhas : Nat → Int32) (vwishes : Nat → Int32) (vwishMany : Int32) (vsightLeft : Nat → Int32) (vsightRight : Nat → Int32) (vsightHow : Nat → Int32) (vsights : Int32) (vpad : Nat → Int32) (vpadMany : Int32) (vact : Nat → Int32) (vwho : Nat → Int32) (vwhich : Nat → Int32) (vwhom : Nat → Int32) (vacts : Int32) (vplace : Int32) (vopenMany : Int32) (vended : Int32) (vspoken : Int32) (vheaviest : Int32) (vheaviestWeight : Int32) (vhad : Nat → Int32) (vbadAct : Int32) (vbadWhy : Int32) (vbrings : Nat → Int64) (vbringsThen : Nat → Int64) (vkept : Nat → Int32) (visKept : Nat → Int32) (vkeptAt : Int32) (visWriting : Int32) (p0 : Int32) (out : Int32) (hf : f_X5_lay vsightLeft vsightRight vsightHow vsights p0 = some out) : kI l D K .int yX5_lay wsX5_lay rmX5_lay [.ref (q 0), .int p0] (mdW K q vweight vkind vrhymes vpurse vhas vwishes vwishMany vsightLeft vsightRight vsightHow vsights vpad vpadMany vact vwho vwhich vwhom vacts vplace vopenMany vended vspoken vheaviest vheaviestWeight vhad vbadAct vbadWhy vbrings vbringsThen vkept visKept vkeptAt visWriting) out (mdW K q vweight vkind vrhymes vpurse vhas vwishes vwishMany vsightLeft vsightRight vsightHow vsights vpad vpadMany vact vwho vwhich vwhom vacts vplace vopenMany vended vspoken vheaviest vheaviestWeight vhad vbadAct vbadWhy vbrings vbringsThen vkept visKept vkeptAt visWriting) := by
  refine kI.of (cc := cX5_lay) (maxL := 5) (by decide) rfl (Nat.le_of_ble_eq_true rfl) ?_
  intro p e s m args below meth c A H0 Q ls hx hb hml hown hts hK hN hA hP hD hS hl hret
  have hown : s.vm.findClass RX5 = some m.cls := hown
  have hl : lv_has ls 5 [(0, .ref (q 0)), (1, .int p0)] := hl
  generalize hH : H0 = H at hP ⊢
  have hS : va_S A H0 H [] := by rw [← hH]; exact hS
  clear hH
  unfold f_X5_lay at hf
  refine lv_iload_n hx hb dX5_lay_0 rfl (lv_at hl 1 rfl) ?_
  refine lv_i2l (v := p0.toInt64) hx hb dX5_lay_1 rfl ?_
  refine lv_lconst (v := 0) hx hb dX5_lay_2 (by decide) ?_
  refine lv_ldc2 hx hb hown (hts (.constantLong RX5 83 (2)) (List.mem_of_getElem? (i := 1) rfl)) dX5_lay_3 ?_
  obtain ⟨o1, ho1, hf⟩ := bd_el hf
  refine kc0_i (D := D) (va_runS (As := [.long p0.toInt64, .long 0, .long 2]) (rest := []) ⟨hx, hb, hml, hown, hts⟩ ((k_X5_in l D K p0.toInt64 (0) (2) o1 ho1) H.size) (va_cwS 3 hts gX5_lay_X5_in rfl rfl rfl yd_X5_in ⟨Nat.le_of_ble_eq_true rfl, Nat.le_of_ble_eq_true rfl⟩) (kPreS va_P_nil (va_D_nil (A := fun _ => True)) hK hN) rfl rfl hl.1 rfl (lv_room (Nat.le_of_ble_eq_true rfl)) dX5_lay_6 ⟨Nat.le_of_ble_eq_true rfl, Nat.le_of_ble_eq_true rfl⟩) hP hS hA (fun hzo1 H locs hP hS => ?_)
  refine lv_if_ne (tgt := 15) hx hb dX5_lay_9 (by decide) (fun c2 => ?_) (fun c2 => ?_)
  · rw [if_neg c2] at hf
    refine lv_aload_n hx hb dX5_lay_15 rfl (lv_at hl 0 rfl) ?_
    obtain ⟨o3, ho3, hf⟩ := ob_el hf
    refine kcw_i (D := D) (va_runV (As := []) (rest := []) ⟨hx, hb, hml, hown, hts⟩ ((k_X5_hollow l D K q vweight vkind vrhymes vpurse vhas vwishes vwishMany vsightLeft vsightRight vsightHow vsights vpad vpadMany vact vwho vwhich vwhom vacts vplace vopenMany vended vspoken vheaviest vheaviestWeight vhad vbadAct vbadWhy vbrings vbringsThen vkept visKept vkeptAt visWriting o3 ho3) H.size) (cwV 0 hts gX5_lay_X5_hollow rfl rfl rfl ⟨rfl, yd_X5_hollow⟩ ⟨Nat.le_of_ble_eq_true rfl, Nat.le_of_ble_eq_true rfl⟩) (kPreV (ci := 5) (q0 := 0) hP rfl rfl hP hD hK hN) rfl rfl hl.1 rfl (lv_room (Nat.le_of_ble_eq_true rfl)) dX5_lay_16 ⟨Nat.le_of_ble_eq_true rfl, Nat.le_of_ble_eq_true rfl⟩) hD hS hA (fun hzo3 H locs hP hD hS => ?_)
    have hP : va_P D vwCl (mdW K q vweight vkind vrhymes vpurse vhas vwishes vwishMany vsightLeft vsightRight vsightHow vsights vpad vpadMany vact vwho vwhich vwhom vacts vplace vopenMany vended vspoken vheaviest vheaviestWeight vhad vbadAct vbadWhy vbrings vbringsThen vkept visKept vkeptAt visWriting) H := hP
    have hD : va_D A (mdW K q vweight vkind vrhymes vpurse vhas vwishes vwishMany vsightLeft vsightRight vsightHow vsights vpad vpadMany vact vwho vwhich vwhom vacts vplace vopenMany vended vspoken vheaviest vheaviestWeight vhad vbadAct vbadWhy vbrings vbringsThen vkept visKept vkeptAt visWriting) := hD
    obtain ⟨o4, ho4, hf⟩ := ob_el hf
    refine kc0_i (D := D) (va_runS (As := [.int o3]) (rest := []) ⟨hx, hb, hml, hown, hts⟩ ((k_X5_ones l D K o3 o4 ho4) H.size) (va_cwS 1 hts gX5_lay_X5_ones rfl rfl rfl yd_X5_ones ⟨Nat.le_of_ble_eq_true rfl, Nat.le_of_ble_eq_true rfl⟩) (kPreS va_P_nil (va_D_nil (A := fun _ => True)) hK hN) rfl rfl hl.1 rfl (lv_room (Nat.le_of_ble_eq_true rfl)) dX5_lay_19 ⟨Nat.le_of_ble_eq_true rfl, Nat.le_of_ble_eq_true rfl⟩) hP hS hA (fun hzo4 H locs hP hS => ?_)
    refine lv_istore_n (lv' := [(2, .int o4), (0, .ref (q 0)), (1, .int p0)]) hx hb dX5_lay_22 rfl hl (by decide) rfl (fun ls hl => ?_)
    refine lv_iload_n hx hb dX5_lay_23 rfl (lv_at hl 2 rfl) ?_
    refine lv_iconst (v := 2) hx hb dX5_lay_24 (by decide) ?_
    refine lv_icmp_ne (tgt := 33) hx hb dX5_lay_25 (by decide) (fun c5 => ?_) (fun c5 => ?_)
    · rw [if_neg c5] at hf
      refine lv_iload_n hx hb dX5_lay_33 rfl (lv_at hl 0 rfl) ?_
      refine lv_if_ne (tgt := 40) hx hb dX5_lay_34 (by decide) (fun c6 => ?_) (fun c6 => ?_)
      · rw [if_neg c6] at hf
        refine lv_iconst (v := 0) hx hb dX5_lay_40 (by decide) ?_
        refine lv_istore_n (lv' := [(3, .int 0), (2, .int o4), (0, .ref (q 0)), (1, .int p0)]) hx hb dX5_lay_41 rfl hl (by decide) rfl (fun ls hl => ?_)
        refine lv_iconst (v := 1) hx hb dX5_lay_42 (by decide) ?_
        refine lv_istore (lv' := [(4, .int 1), (3, .int 0), (2, .int o4), (0, .ref (q 0)), (1, .int p0)]) hx hb dX5_lay_43 hl (by decide) rfl (fun ls hl => ?_)
        obtain ⟨r7, hr7, hf⟩ := ob_el hf
        have post45 : ∀ (e45_l3 : Int32) (e45_l4 : Int32) (H : Heap) (locs : List Loc) (ls : Array Slot), (if p0 = 0 then (some e45_l3) else (bd (f_X5_worse o4 e45_l3) (fun o9 => some o9))) = some out → va_P D vwCl (mdW K q vweight vkind vrhymes vpurse vhas vwishes vwishMany vsightLeft vsightRight vsightHow vsights vpad vpadMany vact vwho vwhich vwhom vacts vplace vopenMany vended vspoken vheaviest vheaviestWeight vhad vbadAct vbadWhy vbrings vbringsThen vkept visKept vkeptAt visWriting) H → va_D A (mdW K q vweight vkind vrhymes vpurse vhas vwishes vwishMany vsightLeft vsightRight vsightHow vsights vpad vpadMany vact vwho vwhich vwhom vacts vplace vopenMany vended vspoken vheaviest vheaviestWeight vhad vbadAct vbadWhy vbrings vbringsThen vkept visKept vkeptAt visWriting) → va_S A H0 H locs → lv_has ls 5 [(4, .int e45_l4), (3, .int e45_l3), (2, .int o4), (0, .ref (q 0)), (1, .int p0)] → W p l e rmX5_lay s m args below meth c H locs 0 0 Q (F0 m 80 ls []) := by
          intro e45_l3 e45_l4 H locs ls hf hP hD hS hl
          refine lv_iload_n hx hb dX5_lay_80 rfl (lv_at hl 4 rfl) ?_
          refine lv_if_ne (tgt := 88) hx hb dX5_lay_81 (by decide) (fun c8 => ?_) (fun c8 => ?_)
          · rw [if_neg c8] at hf
            refine lv_iload_n hx hb dX5_lay_88 rfl (lv_at hl 2 rfl) ?_
            refine lv_iload_n hx hb dX5_lay_89 rfl (lv_at hl 1 rfl) ?_
            obtain ⟨o9, ho9, hf⟩ := bd_el hf
            refine kc0_i (D := D) (va_runS (As := [.int o4, .int e45_l3]) (rest := []) ⟨hx, hb, hml, hown, hts⟩ ((k_X5_worse l D K o4 e45_l3 o9 ho9) H.size) (va_cwS 2 hts gX5_lay_X5_worse rfl rfl rfl yd_X5_worse ⟨Nat.le_of_ble_eq_true rfl, Nat.le_of_ble_eq_true rfl⟩) (kPreS va_P_nil (va_D_nil (A := fun _ => True)) hK hN) rfl rfl hl.1 rfl (lv_room (Nat.le_of_ble_eq_true rfl)) dX5_lay_90 ⟨Nat.le_of_ble_eq_true rfl, Nat.le_of_ble_eq_true rfl⟩) hP hS hA (fun hzo9 H locs hP hS => ?_)
            obtain rfl := Option.some.inj hf
            exact hret rfl rfl rfl hP hD hS dX5_lay_93
          · rw [if_pos c8] at hf
            refine lv_iload_n hx hb dX5_lay_84 rfl (lv_at hl 1 rfl) ?_
            refine lv_goto (tgt := 93) hx hb dX5_lay_85 (by decide) ?_
            obtain rfl := Option.some.inj hf
            exact hret rfl rfl rfl hP hD hS dX5_lay_93
        have lp45 : ∀ (fu : Nat) (x45_l3 : Int32) (x45_l4 : Int32) (H : Heap) (locs : List Loc) (ls : Array Slot), wh (s_X5_lay_45 o4) fu (x45_l3, x45_l4) = some r7 → va_P D vwCl (mdW K q vweight vkind vrhymes vpurse vhas vwishes vwishMany vsightLeft vsightRight vsightHow vsights vpad vpadMany vact vwho vwhich vwhom vacts vplace vopenMany vended vspoken vheaviest vheaviestWeight vhad vbadAct vbadWhy vbrings vbringsThen vkept visKept vkeptAt visWriting) H → va_D A (mdW K q vweight vkind vrhymes vpurse vhas vwishes vwishMany vsightLeft vsightRight vsightHow vsights vpad vpadMany vact vwho vwhich vwhom vacts vplace vopenMany vended vspoken vheaviest vheaviestWeight vhad vbadAct vbadWhy vbrings vbringsThen vkept visKept vkeptAt visWriting) → va_S A H0 H locs → lv_has ls 5 [(4, .int x45_l4), (3, .int x45_l3), (2, .int o4), (0, .ref (q 0)), (1, .int p0)] → W p l e rmX5_lay s m args below meth c H locs 0 0 Q (F0 m 45 ls []) := by
          intro fu
          induction fu with
          | zero => intro x45_l3 x45_l4 H locs ls hw45; cases hw45
          | succ fu ih45 =>
            intro x45_l3 x45_l4 H locs ls hw45 hP hD hS hl
            obtain ⟨o45_, hs45, hw45⟩ := wh_el hw45
            unfold s_X5_lay_45 at hs45
            dsimp only at hs45
            refine lv_iconst (v := 2) hx hb dX5_lay_45 (by decide) ?_
            refine lv_iload hx hb dX5_lay_46 (lv_at hl 0 rfl) ?_
            refine lv_imul hx hb dX5_lay_48 ?_
            refine lv_iload_n hx hb dX5_lay_49 rfl (lv_at hl 2 rfl) ?_
            refine lv_icmp_gt (tgt := 80) hx hb dX5_lay_50 (by decide) (fun c10 => ?_) (fun c10 => ?_)
            · rw [if_pos c10] at hs45
              obtain rfl := Option.some.inj hs45
              have e9 := Option.some.inj hw45
              rw [← e9] at hf
              exact post45 _ _ _ _ _ hf hP hD hS (lv_sub hl [0, 1, 2, 3, 4] rfl)
            · rw [if_neg c10] at hs45
              refine lv_iload_n hx hb dX5_lay_53 rfl (lv_at hl 2 rfl) ?_
              refine lv_iload hx hb dX5_lay_54 (lv_at hl 0 rfl) ?_
              obtain ⟨o11, ho11, hs45⟩ := bd_el hs45
              refine kc0_i (D := D) (va_runS (As := [.int o4, .int x45_l4]) (rest := []) ⟨hx, hb, hml, hown, hts⟩ ((k_X5_worse l D K o4 x45_l4 o11 ho11) H.size) (va_cwS 2 hts gX5_lay_X5_worse rfl rfl rfl yd_X5_worse ⟨Nat.le_of_ble_eq_true rfl, Nat.le_of_ble_eq_true rfl⟩) (kPreS va_P_nil (va_D_nil (A := fun _ => True)) hK hN) rfl rfl hl.1 rfl (lv_room (Nat.le_of_ble_eq_true rfl)) dX5_lay_56 ⟨Nat.le_of_ble_eq_true rfl, Nat.le_of_ble_eq_true rfl⟩) hP hS hA (fun hzo11 H locs hP hS => ?_)
              refine lv_iload_n hx hb dX5_lay_59 rfl (lv_at hl 2 rfl) ?_
              refine lv_iload_n hx hb dX5_lay_60 rfl (lv_at hl 1 rfl) ?_
              obtain ⟨o12, ho12, hs45⟩ := bd_el hs45
              refine kc0_i (D := D) (va_runS (As := [.int o4, .int x45_l3]) (rest := [.int o11]) ⟨hx, hb, hml, hown, hts⟩ ((k_X5_worse l D K o4 x45_l3 o12 ho12) H.size) (va_cwS 2 hts gX5_lay_X5_worse rfl rfl rfl yd_X5_worse ⟨Nat.le_of_ble_eq_true rfl, Nat.le_of_ble_eq_true rfl⟩) (kPreS va_P_nil (va_D_nil (A := fun _ => True)) hK hN) rfl rfl hl.1 rfl (lv_room (Nat.le_of_ble_eq_true rfl)) dX5_lay_61 ⟨Nat.le_of_ble_eq_true rfl, Nat.le_of_ble_eq_true rfl⟩) hP hS hA (fun hzo12 H locs hP hS => ?_)
              refine lv_icmp_ge (tgt := 72) hx hb dX5_lay_64 (by decide) (fun c13 => ?_) (fun c13 => ?_)
              · rw [if_pos c13] at hs45
                refine lv_iload_n hx hb dX5_lay_72 rfl (lv_at hl 1 rfl) ?_
                refine lv_istore_n (lv' := [(3, .int x45_l3), (4, .int x45_l4), (2, .int o4), (0, .ref (q 0)), (1, .int p0)]) hx hb dX5_lay_73 rfl hl (by decide) rfl (fun ls hl => ?_)
                refine lv_iinc (v := (x45_l4 + 1)) (lv' := [(4, .int (x45_l4 + 1)), (3, .int x45_l3), (2, .int o4), (0, .ref (q 0)), (1, .int p0)]) hx hb dX5_lay_74 hl (k := 1) rfl (by rfl) (by decide) rfl (fun ls hl => ?_)
                refine lv_goto (tgt := 45) hx hb dX5_lay_77 (by decide) ?_
                obtain rfl := Option.some.inj hs45
                exact ih45 _ _ _ _ _ hw45 hP hD hS (lv_sub hl [0, 1, 2, 3, 4] rfl)
              · rw [if_neg c13] at hs45
                refine lv_iload hx hb dX5_lay_67 (lv_at hl 0 rfl) ?_
                refine lv_goto (tgt := 73) hx hb dX5_lay_69 (by decide) ?_
                refine lv_istore_n (lv' := [(3, .int x45_l4), (4, .int x45_l4), (2, .int o4), (0, .ref (q 0)), (1, .int p0)]) hx hb dX5_lay_73 rfl hl (by decide) rfl (fun ls hl => ?_)
                refine lv_iinc (v := (x45_l4 + 1)) (lv' := [(4, .int (x45_l4 + 1)), (3, .int x45_l4), (2, .int o4), (0, .ref (q 0)), (1, .int p0)]) hx hb dX5_lay_74 hl (k := 1) rfl (by rfl) (by decide) rfl (fun ls hl => ?_)
                refine lv_goto (tgt := 45) hx hb dX5_lay_77 (by decide) ?_
                obtain rfl := Option.some.inj hs45
                exact ih45 _ _ _ _ _ hw45 hP hD hS (lv_sub hl [0, 1, 2, 3, 4] rfl)
        exact lp45 5000 _ _ _ _ _ hr7 hP hD hS (lv_sub hl [0, 1, 2, 3, 4] rfl)
      · rw [if_pos c6] at hf
        refine lv_bipush (v := (-6)) hx hb dX5_lay_37 (by decide) ?_
        obtain rfl := Option.some.inj hf
        exact hret rfl rfl rfl hP hD hS dX5_lay_39
    · rw [if_pos c5] at hf
      refine lv_iload_n hx hb dX5_lay_28 rfl (lv_at hl 0 rfl) ?_
      obtain ⟨o14, ho14, hf⟩ := ob_el hf
      refine kc0_i (D := D) (va_runS (As := [.int o4]) (rest := []) ⟨hx, hb, hml, hown, hts⟩ ((k_X5_turnsFor l D K o4 o14 ho14) H.size) (va_cwS 1 hts gX5_lay_X5_turnsFor rfl rfl rfl yd_X5_turnsFor ⟨Nat.le_of_ble_eq_true rfl, Nat.le_of_ble_eq_true rfl⟩) (kPreS va_P_nil (va_D_nil (A := fun _ => True)) hK hN) rfl rfl hl.1 rfl (lv_room (Nat.le_of_ble_eq_true rfl)) dX5_lay_29 ⟨Nat.le_of_ble_eq_true rfl, Nat.le_of_ble_eq_true rfl⟩) hP hS hA (fun hzo14 H locs hP hS => ?_)
      obtain rfl := Option.some.inj hf
      exact hret rfl rfl rfl hP hD hS dX5_lay_32
  · rw [if_pos c2] at hf
    refine lv_bipush (v := (-2)) hx hb dX5_lay_12 (by decide) ?_
    obtain rfl := Option.some.inj hf
    exact hret rfl rfl rfl hP hD hS dX5_lay_14
def s_X5_lowest_6 (x : Int64 × Int64) : Option ((Int64 × Int64) ⊕ (Int64 × Int64)) := if (lg_cmp x.2 0) = 0 then (some (.inr (x.1, x.2))) else (nzl x.2 (some (.inl (x.2, (x.1 - x.1 / x.2 * x.2)))))
def f_X5_lowest (p0 : Int64) (p1 : Int64) (p2 : Int32) : Option (Int64) := ob (wh (s_X5_lowest_6) 5000 (p1, p0)) (fun r1 => if p2 = 0 then (nzl r1.1 (some (p0 / r1.1))) else (nzl r1.1 (some (p1 / r1.1))))
theorem yd_X5_lowest : yX5_lowest.cls ≠ "java/lang/invoke/MethodHandle" ∧ yX5_lowest.cls ≠ "java/lang/invoke/VarHandle" ∧ (parseMethodDescriptor yX5_lowest.desc).map (fun d => d.parameters.length) = some 3 := by decide +kernel
abbrev rmX5_lowest : Room := { frames := 0, cells := 0, slots := 0, locals := 0 }
set_option maxHeartbeats 4000000 in
set_option maxRecDepth 100000 in
theorem k_X5_lowest (l : Launch) (D : va_G) (K : Nat → ClassId) (p0 : Int64) (p1 : Int64) (p2 : Int32) (out : Int64) (hf : f_X5_lowest p0 p1 p2 = some out) : kL l D K yX5_lowest wsX5_lowest rmX5_lowest [.long p0, .long p1, .int p2] ([] : va_W) out ([] : va_W) := by
  refine kL.of (cc := cX5_lowest) (maxL := 11) (by decide) rfl (Nat.le_of_ble_eq_true rfl) ?_
  intro p e s m args below meth c A H0 Q ls hx hb hml hown hts hK hN hA hP hD hS hl hret
  have hown : s.vm.findClass RX5 = some m.cls := hown
  have hl : lv_has ls 11 [(0, .long p0), (2, .long p1), (4, .int p2)] := hl
  generalize hH : H0 = H at hP ⊢
  have hS : va_S A H0 H [] := by rw [← hH]; exact hS
  clear hH
  unfold f_X5_lowest at hf
  refine lv_lload_n hx hb dX5_lowest_0 rfl (lv_at hl 1 rfl) ?_
  refine lv_lstore (lv' := [(5, .long p1), (0, .long p0), (2, .long p1), (4, .int p2)]) hx hb dX5_lowest_1 hl (by decide) rfl (fun ls hl => ?_)
  refine lv_lload_n hx hb dX5_lowest_3 rfl (lv_at hl 1 rfl) ?_
  refine lv_lstore (lv' := [(7, .long p0), (5, .long p1), (0, .long p0), (2, .long p1), (4, .int p2)]) hx hb dX5_lowest_4 hl (by decide) rfl (fun ls hl => ?_)
  obtain ⟨r1, hr1, hf⟩ := ob_el hf
  have post6 : ∀ (e6_l5 : Int64) (e6_l7 : Int64) (H : Heap) (locs : List Loc) (ls : Array Slot), (if p2 = 0 then (nzl e6_l5 (some (p0 / e6_l5))) else (nzl e6_l5 (some (p1 / e6_l5)))) = some out → va_P D vwCl ([] : va_W) H → va_D A ([] : va_W) → va_S A H0 H locs → lv_has ls 11 [(7, .long e6_l7), (5, .long e6_l5), (0, .long p0), (2, .long p1), (4, .int p2)] → W p l e rmX5_lowest s m args below meth c H locs 0 0 Q (F0 m 31 ls []) := by
    intro e6_l5 e6_l7 H locs ls hf hP hD hS hl
    refine lv_iload hx hb dX5_lowest_31 (lv_at hl 4 rfl) ?_
    refine lv_if_ne (tgt := 43) hx hb dX5_lowest_33 (by decide) (fun c2 => ?_) (fun c2 => ?_)
    · rw [if_neg c2] at hf
      refine lv_lload_n hx hb dX5_lowest_43 rfl (lv_at hl 3 rfl) ?_
      refine lv_lload hx hb dX5_lowest_44 (lv_at hl 1 rfl) ?_
      obtain ⟨hz3, hf⟩ := nzl_el hf
      refine lv_ldiv hx hb dX5_lowest_46 hz3 ?_
      obtain rfl := Option.some.inj hf
      exact hret rfl rfl hP hD hS dX5_lowest_47
    · rw [if_pos c2] at hf
      refine lv_lload_n hx hb dX5_lowest_36 rfl (lv_at hl 2 rfl) ?_
      refine lv_lload hx hb dX5_lowest_37 (lv_at hl 1 rfl) ?_
      obtain ⟨hz4, hf⟩ := nzl_el hf
      refine lv_ldiv hx hb dX5_lowest_39 hz4 ?_
      refine lv_goto (tgt := 47) hx hb dX5_lowest_40 (by decide) ?_
      obtain rfl := Option.some.inj hf
      exact hret rfl rfl hP hD hS dX5_lowest_47
  have lp6 : ∀ (fu : Nat) (x6_l5 : Int64) (x6_l7 : Int64) (H : Heap) (locs : List Loc) (ls : Array Slot), wh (s_X5_lowest_6) fu (x6_l5, x6_l7) = some r1 → va_P D vwCl ([] : va_W) H → va_D A ([] : va_W) → va_S A H0 H locs → lv_has ls 11 [(7, .long x6_l7), (5, .long x6_l5), (0, .long p0), (2, .long p1), (4, .int p2)] → W p l e rmX5_lowest s m args below meth c H locs 0 0 Q (F0 m 6 ls []) := by
    intro fu
    induction fu with
    | zero => intro x6_l5 x6_l7 H locs ls hw6; cases hw6
    | succ fu ih6 =>
      intro x6_l5 x6_l7 H locs ls hw6 hP hD hS hl
      obtain ⟨o6_, hs6, hw6⟩ := wh_el hw6
      unfold s_X5_lowest_6 at hs6
      dsimp only at hs6
      refine lv_lload hx hb dX5_lowest_6 (lv_at hl 0 rfl) ?_
      refine lv_lconst (v := 0) hx hb dX5_lowest_8 (by decide) ?_
      refine W.lcmp hx hb dX5_lowest_9 ?_
      refine lv_if_eq (tgt := 31) hx hb dX5_lowest_10 (by decide) (fun c5 => ?_) (fun c5 => ?_)
      · rw [if_pos c5] at hs6
        obtain rfl := Option.some.inj hs6
        have e9 := Option.some.inj hw6
        rw [← e9] at hf
        exact post6 _ _ _ _ _ hf hP hD hS (lv_sub hl [0, 1, 2, 3, 4] rfl)
      · rw [if_neg c5] at hs6
        refine lv_lload hx hb dX5_lowest_13 (lv_at hl 1 rfl) ?_
        refine lv_lload hx hb dX5_lowest_15 (lv_at hl 0 rfl) ?_
        obtain ⟨hz6, hs6⟩ := nzl_el hs6
        refine lv_lrem hx hb dX5_lowest_17 hz6 ?_
        refine lv_lstore (lv' := [(9, .long (x6_l5 - x6_l5 / x6_l7 * x6_l7)), (7, .long x6_l7), (5, .long x6_l5), (0, .long p0), (2, .long p1), (4, .int p2)]) hx hb dX5_lowest_18 hl (by decide) rfl (fun ls hl => ?_)
        refine lv_lload hx hb dX5_lowest_20 (lv_at hl 1 rfl) ?_
        refine lv_lstore (lv' := [(5, .long x6_l7), (9, .long (x6_l5 - x6_l5 / x6_l7 * x6_l7)), (7, .long x6_l7), (0, .long p0), (2, .long p1), (4, .int p2)]) hx hb dX5_lowest_22 hl (by decide) rfl (fun ls hl => ?_)
        refine lv_lload hx hb dX5_lowest_24 (lv_at hl 1 rfl) ?_
        refine lv_lstore (lv' := [(7, .long (x6_l5 - x6_l5 / x6_l7 * x6_l7)), (5, .long x6_l7), (9, .long (x6_l5 - x6_l5 / x6_l7 * x6_l7)), (0, .long p0), (2, .long p1), (4, .int p2)]) hx hb dX5_lowest_26 hl (by decide) rfl (fun ls hl => ?_)
        refine lv_goto (tgt := 6) hx hb dX5_lowest_28 (by decide) ?_
        obtain rfl := Option.some.inj hs6
        exact ih6 _ _ _ _ _ hw6 hP hD hS (lv_sub hl [0, 1, 3, 4, 5] rfl)
  exact lp6 5000 _ _ _ _ _ hr1 hP hD hS (lv_sub hl [0, 1, 2, 3, 4] rfl)
def s_X5_weather_233 (x97_l9 : Int32) (e114_bringsThen : Nat → Int64) (x : Int32 × (Nat → Int64)) : Option ((Int32 × (Nat → Int64)) ⊕ (Int32 × (Nat → Int64))) := if (48 - x97_l9) < x.1 then (some (.inr (x.1, x.2))) else (chk x.1 50 (some (.inl ((x.1 + 1), (vp_updL x.2 (x.1).toNatClampNeg (e114_bringsThen (x.1).toNatClampNeg))))))
def s_X5_weather_114 (p0 : Int32) (p2 : Int32) (x97_l6 : Int64) (x97_l9 : Int32) (x97_brings : Nat → Int64) (x : Int32 × Int32 × (Nat → Int64)) : Option ((Int32 × Int32 × (Nat → Int64)) ⊕ (Int32 × Int32 × (Nat → Int64))) := if (48 - x97_l9) < x.2.1 then (some (.inr (x.1, x.2.1, x.2.2))) else (chk (x.2.1 + 1) 50 (if x.2.1 ≤ 0 then (if x.2.1 = p0 then (if (lg_cmp (x.2.1.toInt64 * (x97_l6 * 10)) ((p2.toInt64 * (x97_brings ((x.2.1 + 1)).toNatClampNeg)) + ((10 - p2.toInt64) * (x97_brings (0 : Int32).toNatClampNeg)))) < 0 then (chk x.2.1 50 (some (.inl (0, (x.2.1 + 1), (vp_updL x.2.2 (x.2.1).toNatClampNeg ((p2.toInt64 * (x97_brings ((x.2.1 + 1)).toNatClampNeg)) + ((10 - p2.toInt64) * (x97_brings (0 : Int32).toNatClampNeg)))))))) else (chk x.2.1 50 (some (.inl (1, (x.2.1 + 1), (vp_updL x.2.2 (x.2.1).toNatClampNeg (x.2.1.toInt64 * (x97_l6 * 10)))))))) else (if (lg_cmp (x.2.1.toInt64 * (x97_l6 * 10)) ((p2.toInt64 * (x97_brings ((x.2.1 + 1)).toNatClampNeg)) + ((10 - p2.toInt64) * (x97_brings (0 : Int32).toNatClampNeg)))) < 0 then (chk x.2.1 50 (some (.inl (x.1, (x.2.1 + 1), (vp_updL x.2.2 (x.2.1).toNatClampNeg ((p2.toInt64 * (x97_brings ((x.2.1 + 1)).toNatClampNeg)) + ((10 - p2.toInt64) * (x97_brings (0 : Int32).toNatClampNeg)))))))) else (chk x.2.1 50 (some (.inl (x.1, (x.2.1 + 1), (vp_updL x.2.2 (x.2.1).toNatClampNeg (x.2.1.toInt64 * (x97_l6 * 10))))))))) else (chk (x.2.1 - 1) 50 (if x.2.1 = p0 then (if (lg_cmp (x.2.1.toInt64 * (x97_l6 * 10)) ((p2.toInt64 * (x97_brings ((x.2.1 + 1)).toNatClampNeg)) + ((10 - p2.toInt64) * (x97_brings ((x.2.1 - 1)).toNatClampNeg)))) < 0 then (chk x.2.1 50 (some (.inl (0, (x.2.1 + 1), (vp_updL x.2.2 (x.2.1).toNatClampNeg ((p2.toInt64 * (x97_brings ((x.2.1 + 1)).toNatClampNeg)) + ((10 - p2.toInt64) * (x97_brings ((x.2.1 - 1)).toNatClampNeg)))))))) else (chk x.2.1 50 (some (.inl (1, (x.2.1 + 1), (vp_updL x.2.2 (x.2.1).toNatClampNeg (x.2.1.toInt64 * (x97_l6 * 10)))))))) else (if (lg_cmp (x.2.1.toInt64 * (x97_l6 * 10)) ((p2.toInt64 * (x97_brings ((x.2.1 + 1)).toNatClampNeg)) + ((10 - p2.toInt64) * (x97_brings ((x.2.1 - 1)).toNatClampNeg)))) < 0 then (chk x.2.1 50 (some (.inl (x.1, (x.2.1 + 1), (vp_updL x.2.2 (x.2.1).toNatClampNeg ((p2.toInt64 * (x97_brings ((x.2.1 + 1)).toNatClampNeg)) + ((10 - p2.toInt64) * (x97_brings ((x.2.1 - 1)).toNatClampNeg)))))))) else (chk x.2.1 50 (some (.inl (x.1, (x.2.1 + 1), (vp_updL x.2.2 (x.2.1).toNatClampNeg (x.2.1.toInt64 * (x97_l6 * 10))))))))))))
def s_X5_weather_97 (p0 : Int32) (p1 : Int32) (p2 : Int32) (x : Int64 × Int32 × Int32 × (Nat → Int64) × (Nat → Int64)) : Option ((Int64 × Int32 × Int32 × (Nat → Int64) × (Nat → Int64)) ⊕ (Int64 × Int32 × Int32 × (Nat → Int64) × (Nat → Int64))) := if p1 < x.2.2.1 then (some (.inr (x.1, x.2.1, x.2.2.1, x.2.2.2.1, x.2.2.2.2))) else (ob (wh (s_X5_weather_114 p0 p2 x.1 x.2.2.1 x.2.2.2.1) 5000 (x.2.1, 0, x.2.2.2.2)) (fun r18 => ob (wh (s_X5_weather_233 x.2.2.1 r18.2.2) 5000 (0, x.2.2.2.1)) (fun r19 => some (.inl ((x.1 * 10), r18.1, (x.2.2.1 + 1), r19.2, r18.2.2)))))
def s_X5_weather_65 (x : Int32 × (Nat → Int64)) : Option ((Int32 × (Nat → Int64)) ⊕ (Int32 × (Nat → Int64))) := if 50 ≤ x.1 then (some (.inr (x.1, x.2))) else (chk x.1 50 (some (.inl ((x.1 + 1), (vp_updL x.2 (x.1).toNatClampNeg x.1.toInt64)))))
def f_X5_weather (vbrings : Nat → Int64) (vbringsThen : Nat → Int64) (p0 : Int32) (p1 : Int32) (p2 : Int32) (p3 : Int32) (p4 : Int32) : Option (Int64 × (Nat → Int64) × (Nat → Int64)) := bd (f_X5_in p0.toInt64 (0) (40)) (fun o1 => if o1 = 0 then (some ((-1000000000000000002), vbrings, vbringsThen)) else (bd (f_X5_in p1.toInt64 (0) (8)) (fun o3 => if o3 = 0 then (some ((-1000000000000000002), vbrings, vbringsThen)) else (bd (f_X5_in p2.toInt64 (0) (10)) (fun o5 => if o5 = 0 then (some ((-1000000000000000002), vbrings, vbringsThen)) else (bd (f_X5_in p3.toInt64 (0) (1)) (fun o7 => if o7 = 0 then (some ((-1000000000000000002), vbrings, vbringsThen)) else (bd (f_X5_in p4.toInt64 (0) (1)) (fun o9 => if o9 = 0 then (some ((-1000000000000000002), vbrings, vbringsThen)) else (ob (wh (s_X5_weather_65) 5000 (0, vbrings)) (fun r11 => ob (wh (s_X5_weather_97 p0 p1 p2) 5000 (1, 1, 1, r11.2, vbringsThen)) (fun r12 => if p3 = 1 then (if r12.2.1 = 0 then (some (0, r12.2.2.2.1, r12.2.2.2.2)) else (some (1, r12.2.2.2.1, r12.2.2.2.2))) else (chk p0 50 (ob (f_X5_lowest (r12.2.2.2.1 (p0).toNatClampNeg) r12.1 p4) (fun o15 => some (o15, r12.2.2.2.1, r12.2.2.2.2))))))))))))))))
theorem inX5_weather_X5 : ∀ w ∈ wsX50, w ∈ wsX5_weather := fun w h => List.mem_cons_of_mem _ (List.mem_append_right _ h)
theorem yd_X5_weather : yX5_weather.cls ≠ "java/lang/invoke/MethodHandle" ∧ yX5_weather.cls ≠ "java/lang/invoke/VarHandle" ∧ (parseMethodDescriptor yX5_weather.desc).map (fun d => d.parameters.length) = some 5 := by decide +kernel
abbrev rmX5_weather : Room := { frames := 1, cells := 0, slots := 0, locals := 30 }
set_option maxHeartbeats 4000000 in
set_option maxRecDepth 100000 in
theorem k_X5_weather (l : Launch) (D : va_G) (K : Nat → ClassId) (q : Nat → Nat) (vweight : Nat → Int32) (vkind : Nat → Int32) (vrhymes : Nat → Int32) (vpurse : Nat → Int32) (vhas : Nat → Int32) (vwishes : Nat → Int32) (vwishMany : Int32) (vsightLeft : Nat → Int32) (vsightRight : Nat → Int32) (vsightHow : Nat → Int32) (vsights : Int32) (vpad : Nat → Int32) (vpadMany : Int32) (vact : Nat → Int32) (vwho : Nat → Int32) (vwhich : Nat → Int32) (vwhom : Nat → Int32) (vacts : Int32) (vplace : Int32) (vopenMany : Int32) (vended : Int32) (vspoken : Int32) (vheaviest : Int32) (vheaviestWeight : Int32) (vhad : Nat → Int32) (vbadAct : Int32) (vbadWhy : Int32) (vbrings : Nat → Int64) (vbringsThen : Nat → Int64) (vkept : Nat → Int32) (visKept : Nat → Int32) (vkeptAt : Int32) (visWriting : Int32) (p0 : Int32) (p1 : Int32) (p2 : Int32) (p3 : Int32) (p4 : Int32) (out : Int64 × (Nat → Int64) × (Nat → Int64)) (hf : f_X5_weather vbrings vbringsThen p0 p1 p2 p3 p4 = some out) : kL l D K yX5_weather wsX5_weather rmX5_weather [.ref (q 0), .int p0, .int p1, .int p2, .int p3, .int p4] (mdW K q vweight vkind vrhymes vpurse vhas vwishes vwishMany vsightLeft vsightRight vsightHow vsights vpad vpadMany vact vwho vwhich vwhom vacts vplace vopenMany vended vspoken vheaviest vheaviestWeight vhad vbadAct vbadWhy vbrings vbringsThen vkept visKept vkeptAt visWriting) out.1 (mdW K q vweight vkind vrhymes vpurse vhas vwishes vwishMany vsightLeft vsightRight vsightHow vsights vpad vpadMany vact vwho vwhich vwhom vacts vplace vopenMany vended vspoken vheaviest vheaviestWeight vhad vbadAct vbadWhy out.2.1 out.2.2 vkept visKept vkeptAt visWriting) := by
  refine kL.of (cc := cX5_weather) (maxL := 13) (by decide) rfl (Nat.le_of_ble_eq_true rfl) ?_
  intro p e s m args below meth c A H0 Q ls hx hb hml hown hts hK hN hA hP hD hS hl hret
  have hown : s.vm.findClass RX5 = some m.cls := hown
  have hl : lv_has ls 13 [(0, .ref (q 0)), (1, .int p0), (2, .int p1), (3, .int p2), (4, .int p3), (5, .int p4)] := hl
  generalize hH : H0 = H at hP ⊢
  have hS : va_S A H0 H [] := by rw [← hH]; exact hS
  clear hH
  unfold f_X5_weather at hf
  refine lv_iload_n hx hb dX5_weather_0 rfl (lv_at hl 1 rfl) ?_
  refine lv_i2l (v := p0.toInt64) hx hb dX5_weather_1 rfl ?_
  refine lv_lconst (v := 0) hx hb dX5_weather_2 (by decide) ?_
  refine lv_ldc2 hx hb hown (hts (.constantLong RX5 236 (40)) (List.mem_of_getElem? (i := 1) rfl)) dX5_weather_3 ?_
  obtain ⟨o1, ho1, hf⟩ := bd_el hf
  refine kc0_i (D := D) (va_runS (As := [.long p0.toInt64, .long 0, .long 40]) (rest := []) ⟨hx, hb, hml, hown, hts⟩ ((k_X5_in l D K p0.toInt64 (0) (40) o1 ho1) H.size) (va_cwS 3 hts gX5_weather_X5_in rfl rfl rfl yd_X5_in ⟨Nat.le_of_ble_eq_true rfl, Nat.le_of_ble_eq_true rfl⟩) (kPreS va_P_nil (va_D_nil (A := fun _ => True)) hK hN) rfl rfl hl.1 rfl (lv_room (Nat.le_of_ble_eq_true rfl)) dX5_weather_6 ⟨Nat.le_of_ble_eq_true rfl, Nat.le_of_ble_eq_true rfl⟩) hP hS hA (fun hzo1 H locs hP hS => ?_)
  refine lv_if_eq (tgt := 58) hx hb dX5_weather_9 (by decide) (fun c2 => ?_) (fun c2 => ?_)
  · rw [if_pos c2] at hf
    refine lv_ldc2 hx hb hown (hts (.constantLong RX5 240 (-1000000000000000002)) (List.mem_of_getElem? (i := 4) rfl)) dX5_weather_58 ?_
    obtain rfl := Option.some.inj hf
    exact hret rfl rfl hP hD hS dX5_weather_61
  · rw [if_neg c2] at hf
    refine lv_iload_n hx hb dX5_weather_12 rfl (lv_at hl 2 rfl) ?_
    refine lv_i2l (v := p1.toInt64) hx hb dX5_weather_13 rfl ?_
    refine lv_lconst (v := 0) hx hb dX5_weather_14 (by decide) ?_
    refine lv_ldc2 hx hb hown (hts (.constantLong RX5 198 (8)) (List.mem_of_getElem? (i := 2) rfl)) dX5_weather_15 ?_
    obtain ⟨o3, ho3, hf⟩ := bd_el hf
    refine kc0_i (D := D) (va_runS (As := [.long p1.toInt64, .long 0, .long 8]) (rest := []) ⟨hx, hb, hml, hown, hts⟩ ((k_X5_in l D K p1.toInt64 (0) (8) o3 ho3) H.size) (va_cwS 3 hts gX5_weather_X5_in rfl rfl rfl yd_X5_in ⟨Nat.le_of_ble_eq_true rfl, Nat.le_of_ble_eq_true rfl⟩) (kPreS va_P_nil (va_D_nil (A := fun _ => True)) hK hN) rfl rfl hl.1 rfl (lv_room (Nat.le_of_ble_eq_true rfl)) dX5_weather_18 ⟨Nat.le_of_ble_eq_true rfl, Nat.le_of_ble_eq_true rfl⟩) hP hS hA (fun hzo3 H locs hP hS => ?_)
    refine lv_if_eq (tgt := 58) hx hb dX5_weather_21 (by decide) (fun c4 => ?_) (fun c4 => ?_)
    · rw [if_pos c4] at hf
      refine lv_ldc2 hx hb hown (hts (.constantLong RX5 240 (-1000000000000000002)) (List.mem_of_getElem? (i := 4) rfl)) dX5_weather_58 ?_
      obtain rfl := Option.some.inj hf
      exact hret rfl rfl hP hD hS dX5_weather_61
    · rw [if_neg c4] at hf
      refine lv_iload_n hx hb dX5_weather_24 rfl (lv_at hl 3 rfl) ?_
      refine lv_i2l (v := p2.toInt64) hx hb dX5_weather_25 rfl ?_
      refine lv_lconst (v := 0) hx hb dX5_weather_26 (by decide) ?_
      refine lv_ldc2 hx hb hown (hts (.constantLong RX5 238 (10)) (List.mem_of_getElem? (i := 3) rfl)) dX5_weather_27 ?_
      obtain ⟨o5, ho5, hf⟩ := bd_el hf
      refine kc0_i (D := D) (va_runS (As := [.long p2.toInt64, .long 0, .long 10]) (rest := []) ⟨hx, hb, hml, hown, hts⟩ ((k_X5_in l D K p2.toInt64 (0) (10) o5 ho5) H.size) (va_cwS 3 hts gX5_weather_X5_in rfl rfl rfl yd_X5_in ⟨Nat.le_of_ble_eq_true rfl, Nat.le_of_ble_eq_true rfl⟩) (kPreS va_P_nil (va_D_nil (A := fun _ => True)) hK hN) rfl rfl hl.1 rfl (lv_room (Nat.le_of_ble_eq_true rfl)) dX5_weather_30 ⟨Nat.le_of_ble_eq_true rfl, Nat.le_of_ble_eq_true rfl⟩) hP hS hA (fun hzo5 H locs hP hS => ?_)
      refine lv_if_eq (tgt := 58) hx hb dX5_weather_33 (by decide) (fun c6 => ?_) (fun c6 => ?_)
      · rw [if_pos c6] at hf
        refine lv_ldc2 hx hb hown (hts (.constantLong RX5 240 (-1000000000000000002)) (List.mem_of_getElem? (i := 4) rfl)) dX5_weather_58 ?_
        obtain rfl := Option.some.inj hf
        exact hret rfl rfl hP hD hS dX5_weather_61
      · rw [if_neg c6] at hf
        refine lv_iload hx hb dX5_weather_36 (lv_at hl 4 rfl) ?_
        refine lv_i2l (v := p3.toInt64) hx hb dX5_weather_38 rfl ?_
        refine lv_lconst (v := 0) hx hb dX5_weather_39 (by decide) ?_
        refine lv_lconst (v := 1) hx hb dX5_weather_40 (by decide) ?_
        obtain ⟨o7, ho7, hf⟩ := bd_el hf
        refine kc0_i (D := D) (va_runS (As := [.long p3.toInt64, .long 0, .long 1]) (rest := []) ⟨hx, hb, hml, hown, hts⟩ ((k_X5_in l D K p3.toInt64 (0) (1) o7 ho7) H.size) (va_cwS 3 hts gX5_weather_X5_in rfl rfl rfl yd_X5_in ⟨Nat.le_of_ble_eq_true rfl, Nat.le_of_ble_eq_true rfl⟩) (kPreS va_P_nil (va_D_nil (A := fun _ => True)) hK hN) rfl rfl hl.1 rfl (lv_room (Nat.le_of_ble_eq_true rfl)) dX5_weather_41 ⟨Nat.le_of_ble_eq_true rfl, Nat.le_of_ble_eq_true rfl⟩) hP hS hA (fun hzo7 H locs hP hS => ?_)
        refine lv_if_eq (tgt := 58) hx hb dX5_weather_44 (by decide) (fun c8 => ?_) (fun c8 => ?_)
        · rw [if_pos c8] at hf
          refine lv_ldc2 hx hb hown (hts (.constantLong RX5 240 (-1000000000000000002)) (List.mem_of_getElem? (i := 4) rfl)) dX5_weather_58 ?_
          obtain rfl := Option.some.inj hf
          exact hret rfl rfl hP hD hS dX5_weather_61
        · rw [if_neg c8] at hf
          refine lv_iload hx hb dX5_weather_47 (lv_at hl 5 rfl) ?_
          refine lv_i2l (v := p4.toInt64) hx hb dX5_weather_49 rfl ?_
          refine lv_lconst (v := 0) hx hb dX5_weather_50 (by decide) ?_
          refine lv_lconst (v := 1) hx hb dX5_weather_51 (by decide) ?_
          obtain ⟨o9, ho9, hf⟩ := bd_el hf
          refine kc0_i (D := D) (va_runS (As := [.long p4.toInt64, .long 0, .long 1]) (rest := []) ⟨hx, hb, hml, hown, hts⟩ ((k_X5_in l D K p4.toInt64 (0) (1) o9 ho9) H.size) (va_cwS 3 hts gX5_weather_X5_in rfl rfl rfl yd_X5_in ⟨Nat.le_of_ble_eq_true rfl, Nat.le_of_ble_eq_true rfl⟩) (kPreS va_P_nil (va_D_nil (A := fun _ => True)) hK hN) rfl rfl hl.1 rfl (lv_room (Nat.le_of_ble_eq_true rfl)) dX5_weather_52 ⟨Nat.le_of_ble_eq_true rfl, Nat.le_of_ble_eq_true rfl⟩) hP hS hA (fun hzo9 H locs hP hS => ?_)
          refine lv_if_ne (tgt := 62) hx hb dX5_weather_55 (by decide) (fun c10 => ?_) (fun c10 => ?_)
          · rw [if_neg c10] at hf
            refine lv_iconst (v := 0) hx hb dX5_weather_62 (by decide) ?_
            refine lv_istore (lv' := [(6, .int 0), (0, .ref (q 0)), (1, .int p0), (2, .int p1), (3, .int p2), (4, .int p3), (5, .int p4)]) hx hb dX5_weather_63 hl (by decide) rfl (fun ls hl => ?_)
            obtain ⟨r11, hr11, hf⟩ := ob_el hf
            have post65 : ∀ (e65_l6 : Int32) (e65_brings : Nat → Int64) (H : Heap) (locs : List Loc) (ls : Array Slot), (ob (wh (s_X5_weather_97 p0 p1 p2) 5000 (1, 1, 1, e65_brings, vbringsThen)) (fun r12 => if p3 = 1 then (if r12.2.1 = 0 then (some (0, r12.2.2.2.1, r12.2.2.2.2)) else (some (1, r12.2.2.2.1, r12.2.2.2.2))) else (chk p0 50 (ob (f_X5_lowest (r12.2.2.2.1 (p0).toNatClampNeg) r12.1 p4) (fun o15 => some (o15, r12.2.2.2.1, r12.2.2.2.2)))))) = some out → va_P D vwCl (mdW K q vweight vkind vrhymes vpurse vhas vwishes vwishMany vsightLeft vsightRight vsightHow vsights vpad vpadMany vact vwho vwhich vwhom vacts vplace vopenMany vended vspoken vheaviest vheaviestWeight vhad vbadAct vbadWhy e65_brings vbringsThen vkept visKept vkeptAt visWriting) H → va_D A (mdW K q vweight vkind vrhymes vpurse vhas vwishes vwishMany vsightLeft vsightRight vsightHow vsights vpad vpadMany vact vwho vwhich vwhom vacts vplace vopenMany vended vspoken vheaviest vheaviestWeight vhad vbadAct vbadWhy e65_brings vbringsThen vkept visKept vkeptAt visWriting) → va_S A H0 H locs → lv_has ls 13 [(6, .int e65_l6), (0, .ref (q 0)), (1, .int p0), (2, .int p1), (3, .int p2), (4, .int p3), (5, .int p4)] → W p l e rmX5_weather s m args below meth c H locs 0 0 Q (F0 m 88 ls []) := by
              intro e65_l6 e65_brings H locs ls hf hP hD hS hl
              refine lv_lconst (v := 1) hx hb dX5_weather_88 (by decide) ?_
              refine lv_lstore (lv' := [(6, .long 1), (0, .ref (q 0)), (1, .int p0), (2, .int p1), (3, .int p2), (4, .int p3), (5, .int p4)]) hx hb dX5_weather_89 hl (by decide) rfl (fun ls hl => ?_)
              refine lv_iconst (v := 1) hx hb dX5_weather_91 (by decide) ?_
              refine lv_istore (lv' := [(8, .int 1), (6, .long 1), (0, .ref (q 0)), (1, .int p0), (2, .int p1), (3, .int p2), (4, .int p3), (5, .int p4)]) hx hb dX5_weather_92 hl (by decide) rfl (fun ls hl => ?_)
              refine lv_iconst (v := 1) hx hb dX5_weather_94 (by decide) ?_
              refine lv_istore (lv' := [(9, .int 1), (8, .int 1), (6, .long 1), (0, .ref (q 0)), (1, .int p0), (2, .int p1), (3, .int p2), (4, .int p3), (5, .int p4)]) hx hb dX5_weather_95 hl (by decide) rfl (fun ls hl => ?_)
              obtain ⟨r12, hr12, hf⟩ := ob_el hf
              have post97 : ∀ (e97_l6 : Int64) (e97_l8 : Int32) (e97_l9 : Int32) (e97_brings : Nat → Int64) (e97_bringsThen : Nat → Int64) (H : Heap) (locs : List Loc) (ls : Array Slot), (if p3 = 1 then (if e97_l8 = 0 then (some (0, e97_brings, e97_bringsThen)) else (some (1, e97_brings, e97_bringsThen))) else (chk p0 50 (ob (f_X5_lowest (e97_brings (p0).toNatClampNeg) e97_l6 p4) (fun o15 => some (o15, e97_brings, e97_bringsThen))))) = some out → va_P D vwCl (mdW K q vweight vkind vrhymes vpurse vhas vwishes vwishMany vsightLeft vsightRight vsightHow vsights vpad vpadMany vact vwho vwhich vwhom vacts vplace vopenMany vended vspoken vheaviest vheaviestWeight vhad vbadAct vbadWhy e97_brings e97_bringsThen vkept visKept vkeptAt visWriting) H → va_D A (mdW K q vweight vkind vrhymes vpurse vhas vwishes vwishMany vsightLeft vsightRight vsightHow vsights vpad vpadMany vact vwho vwhich vwhom vacts vplace vopenMany vended vspoken vheaviest vheaviestWeight vhad vbadAct vbadWhy e97_brings e97_bringsThen vkept visKept vkeptAt visWriting) → va_S A H0 H locs → lv_has ls 13 [(9, .int e97_l9), (8, .int e97_l8), (6, .long e97_l6), (0, .ref (q 0)), (1, .int p0), (2, .int p1), (3, .int p2), (4, .int p3), (5, .int p4)] → W p l e rmX5_weather s m args below meth c H locs 0 0 Q (F0 m 269 ls []) := by
                intro e97_l6 e97_l8 e97_l9 e97_brings e97_bringsThen H locs ls hf hP hD hS hl
                refine lv_iload hx hb dX5_weather_269 (lv_at hl 7 rfl) ?_
                refine lv_iconst (v := 1) hx hb dX5_weather_271 (by decide) ?_
                refine lv_icmp_ne (tgt := 288) hx hb dX5_weather_272 (by decide) (fun c13 => ?_) (fun c13 => ?_)
                · rw [if_neg c13] at hf
                  refine lv_aload_n hx hb dX5_weather_288 rfl (lv_at hl 3 rfl) ?_
                  refine va_get (D := D) (ci := 5) (v := .ref (q 16)) (C := RX5) (T := TX5) (N := 33) hx hb hts inX5_weather_X5 hown hK hP 0 rfl rfl 27 (by decide) (hts (.fieldLink RX5 55 "WordScalesModel" "brings" "[J") (List.mem_of_getElem? (i := 5) rfl)) (fun _ h9 => h9) rfl dX5_weather_289 ?_
                  refine lv_iload_n hx hb dX5_weather_292 rfl (lv_at hl 4 rfl) ?_
                  obtain ⟨v14, hf⟩ := chk_el hf
                  refine va_lald (D := D) (f := e97_brings) hx hb hK hP 16 1 rfl rfl v14 dX5_weather_293 ?_
                  refine lv_lload hx hb dX5_weather_294 (lv_at hl 2 rfl) ?_
                  refine lv_iload hx hb dX5_weather_296 (lv_at hl 8 rfl) ?_
                  obtain ⟨o15, ho15, hf⟩ := ob_el hf
                  refine kc0_l (D := D) (va_runS (As := [.long (e97_brings (p0).toNatClampNeg), .long e97_l6, .int p4]) (rest := []) ⟨hx, hb, hml, hown, hts⟩ ((k_X5_lowest l D K (e97_brings (p0).toNatClampNeg) e97_l6 p4 o15 ho15) H.size) (va_cwS 3 hts gX5_weather_X5_lowest rfl rfl rfl yd_X5_lowest ⟨Nat.le_of_ble_eq_true rfl, Nat.le_of_ble_eq_true rfl⟩) (kPreS va_P_nil (va_D_nil (A := fun _ => True)) hK hN) rfl rfl hl.1 rfl (lv_room (Nat.le_of_ble_eq_true rfl)) dX5_weather_298 ⟨Nat.le_of_ble_eq_true rfl, Nat.le_of_ble_eq_true rfl⟩) hP hS hA (fun H locs hP hS => ?_)
                  obtain rfl := Option.some.inj hf
                  exact hret rfl rfl hP hD hS dX5_weather_301
                · rw [if_pos c13] at hf
                  refine lv_iload hx hb dX5_weather_275 (lv_at hl 1 rfl) ?_
                  refine lv_if_eq (tgt := 284) hx hb dX5_weather_277 (by decide) (fun c16 => ?_) (fun c16 => ?_)
                  · rw [if_pos c16] at hf
                    refine lv_lconst (v := 0) hx hb dX5_weather_284 (by decide) ?_
                    refine lv_goto (tgt := 301) hx hb dX5_weather_285 (by decide) ?_
                    obtain rfl := Option.some.inj hf
                    exact hret rfl rfl hP hD hS dX5_weather_301
                  · rw [if_neg c16] at hf
                    refine lv_lconst (v := 1) hx hb dX5_weather_280 (by decide) ?_
                    refine lv_goto (tgt := 301) hx hb dX5_weather_281 (by decide) ?_
                    obtain rfl := Option.some.inj hf
                    exact hret rfl rfl hP hD hS dX5_weather_301
              have lp97 : ∀ (fu : Nat) (x97_l6 : Int64) (x97_l8 : Int32) (x97_l9 : Int32) (x97_brings : Nat → Int64) (x97_bringsThen : Nat → Int64) (H : Heap) (locs : List Loc) (ls : Array Slot), wh (s_X5_weather_97 p0 p1 p2) fu (x97_l6, x97_l8, x97_l9, x97_brings, x97_bringsThen) = some r12 → va_P D vwCl (mdW K q vweight vkind vrhymes vpurse vhas vwishes vwishMany vsightLeft vsightRight vsightHow vsights vpad vpadMany vact vwho vwhich vwhom vacts vplace vopenMany vended vspoken vheaviest vheaviestWeight vhad vbadAct vbadWhy x97_brings x97_bringsThen vkept visKept vkeptAt visWriting) H → va_D A (mdW K q vweight vkind vrhymes vpurse vhas vwishes vwishMany vsightLeft vsightRight vsightHow vsights vpad vpadMany vact vwho vwhich vwhom vacts vplace vopenMany vended vspoken vheaviest vheaviestWeight vhad vbadAct vbadWhy x97_brings x97_bringsThen vkept visKept vkeptAt visWriting) → va_S A H0 H locs → lv_has ls 13 [(9, .int x97_l9), (8, .int x97_l8), (6, .long x97_l6), (0, .ref (q 0)), (1, .int p0), (2, .int p1), (3, .int p2), (4, .int p3), (5, .int p4)] → W p l e rmX5_weather s m args below meth c H locs 0 0 Q (F0 m 97 ls []) := by
                intro fu
                induction fu with
                | zero => intro x97_l6 x97_l8 x97_l9 x97_brings x97_bringsThen H locs ls hw97; cases hw97
                | succ fu ih97 =>
                  intro x97_l6 x97_l8 x97_l9 x97_brings x97_bringsThen H locs ls hw97 hP hD hS hl
                  obtain ⟨o97_, hs97, hw97⟩ := wh_el hw97
                  unfold s_X5_weather_97 at hs97
                  dsimp only at hs97
                  refine lv_iload hx hb dX5_weather_97 (lv_at hl 0 rfl) ?_
                  refine lv_iload_n hx hb dX5_weather_99 rfl (lv_at hl 5 rfl) ?_
                  refine lv_icmp_gt (tgt := 269) hx hb dX5_weather_100 (by decide) (fun c17 => ?_) (fun c17 => ?_)
                  · rw [if_pos c17] at hs97
                    obtain rfl := Option.some.inj hs97
                    have e9 := Option.some.inj hw97
                    rw [← e9] at hf
                    exact post97 _ _ _ _ _ _ _ _ hf hP hD hS (lv_sub hl [0, 1, 2, 3, 4, 5, 6, 7, 8] rfl)
                  · rw [if_neg c17] at hs97
                    refine lv_lload hx hb dX5_weather_103 (lv_at hl 2 rfl) ?_
                    refine lv_ldc2 hx hb hown (hts (.constantLong RX5 238 (10)) (List.mem_of_getElem? (i := 3) rfl)) dX5_weather_105 ?_
                    refine lv_lmul hx hb dX5_weather_108 ?_
                    refine lv_lstore (lv' := [(6, .long (x97_l6 * 10)), (9, .int x97_l9), (8, .int x97_l8), (0, .ref (q 0)), (1, .int p0), (2, .int p1), (3, .int p2), (4, .int p3), (5, .int p4)]) hx hb dX5_weather_109 hl (by decide) rfl (fun ls hl => ?_)
                    refine lv_iconst (v := 0) hx hb dX5_weather_111 (by decide) ?_
                    refine lv_istore (lv' := [(10, .int 0), (6, .long (x97_l6 * 10)), (9, .int x97_l9), (8, .int x97_l8), (0, .ref (q 0)), (1, .int p0), (2, .int p1), (3, .int p2), (4, .int p3), (5, .int p4)]) hx hb dX5_weather_112 hl (by decide) rfl (fun ls hl => ?_)
                    obtain ⟨r18, hr18, hs97⟩ := ob_el hs97
                    have post114 : ∀ (e114_l8 : Int32) (e114_l10 : Int32) (e114_bringsThen : Nat → Int64) (H : Heap) (locs : List Loc) (ls : Array Slot), (ob (wh (s_X5_weather_233 x97_l9 e114_bringsThen) 5000 (0, x97_brings)) (fun r19 => some (.inl ((x97_l6 * 10), e114_l8, (x97_l9 + 1), r19.2, e114_bringsThen)))) = some o97_ → va_P D vwCl (mdW K q vweight vkind vrhymes vpurse vhas vwishes vwishMany vsightLeft vsightRight vsightHow vsights vpad vpadMany vact vwho vwhich vwhom vacts vplace vopenMany vended vspoken vheaviest vheaviestWeight vhad vbadAct vbadWhy x97_brings e114_bringsThen vkept visKept vkeptAt visWriting) H → va_D A (mdW K q vweight vkind vrhymes vpurse vhas vwishes vwishMany vsightLeft vsightRight vsightHow vsights vpad vpadMany vact vwho vwhich vwhom vacts vplace vopenMany vended vspoken vheaviest vheaviestWeight vhad vbadAct vbadWhy x97_brings e114_bringsThen vkept visKept vkeptAt visWriting) → va_S A H0 H locs → lv_has ls 13 [(10, .int e114_l10), (6, .long (x97_l6 * 10)), (9, .int x97_l9), (8, .int e114_l8), (0, .ref (q 0)), (1, .int p0), (2, .int p1), (3, .int p2), (4, .int p3), (5, .int p4)] → W p l e rmX5_weather s m args below meth c H locs 0 0 Q (F0 m 230 ls []) := by
                      intro e114_l8 e114_l10 e114_bringsThen H locs ls hs97 hP hD hS hl
                      refine lv_iconst (v := 0) hx hb dX5_weather_230 (by decide) ?_
                      refine lv_istore (lv' := [(10, .int 0), (6, .long (x97_l6 * 10)), (9, .int x97_l9), (8, .int e114_l8), (0, .ref (q 0)), (1, .int p0), (2, .int p1), (3, .int p2), (4, .int p3), (5, .int p4)]) hx hb dX5_weather_231 hl (by decide) rfl (fun ls hl => ?_)
                      obtain ⟨r19, hr19, hs97⟩ := ob_el hs97
                      have post233 : ∀ (e233_l10 : Int32) (e233_brings : Nat → Int64) (H : Heap) (locs : List Loc) (ls : Array Slot), (some (.inl ((x97_l6 * 10), e114_l8, (x97_l9 + 1), e233_brings, e114_bringsThen))) = some o97_ → va_P D vwCl (mdW K q vweight vkind vrhymes vpurse vhas vwishes vwishMany vsightLeft vsightRight vsightHow vsights vpad vpadMany vact vwho vwhich vwhom vacts vplace vopenMany vended vspoken vheaviest vheaviestWeight vhad vbadAct vbadWhy e233_brings e114_bringsThen vkept visKept vkeptAt visWriting) H → va_D A (mdW K q vweight vkind vrhymes vpurse vhas vwishes vwishMany vsightLeft vsightRight vsightHow vsights vpad vpadMany vact vwho vwhich vwhom vacts vplace vopenMany vended vspoken vheaviest vheaviestWeight vhad vbadAct vbadWhy e233_brings e114_bringsThen vkept visKept vkeptAt visWriting) → va_S A H0 H locs → lv_has ls 13 [(10, .int e233_l10), (6, .long (x97_l6 * 10)), (9, .int x97_l9), (8, .int e114_l8), (0, .ref (q 0)), (1, .int p0), (2, .int p1), (3, .int p2), (4, .int p3), (5, .int p4)] → W p l e rmX5_weather s m args below meth c H locs 0 0 Q (F0 m 263 ls []) := by
                        intro e233_l10 e233_brings H locs ls hs97 hP hD hS hl
                        refine lv_iinc (v := (x97_l9 + 1)) (lv' := [(9, .int (x97_l9 + 1)), (10, .int e233_l10), (6, .long (x97_l6 * 10)), (8, .int e114_l8), (0, .ref (q 0)), (1, .int p0), (2, .int p1), (3, .int p2), (4, .int p3), (5, .int p4)]) hx hb dX5_weather_263 hl (k := 2) rfl (by rfl) (by decide) rfl (fun ls hl => ?_)
                        refine lv_goto (tgt := 97) hx hb dX5_weather_266 (by decide) ?_
                        obtain rfl := Option.some.inj hs97
                        exact ih97 _ _ _ _ _ _ _ _ hw97 hP hD hS (lv_sub hl [0, 3, 2, 4, 5, 6, 7, 8, 9] rfl)
                      have lp233 : ∀ (fu : Nat) (x233_l10 : Int32) (x233_brings : Nat → Int64) (H : Heap) (locs : List Loc) (ls : Array Slot), wh (s_X5_weather_233 x97_l9 e114_bringsThen) fu (x233_l10, x233_brings) = some r19 → va_P D vwCl (mdW K q vweight vkind vrhymes vpurse vhas vwishes vwishMany vsightLeft vsightRight vsightHow vsights vpad vpadMany vact vwho vwhich vwhom vacts vplace vopenMany vended vspoken vheaviest vheaviestWeight vhad vbadAct vbadWhy x233_brings e114_bringsThen vkept visKept vkeptAt visWriting) H → va_D A (mdW K q vweight vkind vrhymes vpurse vhas vwishes vwishMany vsightLeft vsightRight vsightHow vsights vpad vpadMany vact vwho vwhich vwhom vacts vplace vopenMany vended vspoken vheaviest vheaviestWeight vhad vbadAct vbadWhy x233_brings e114_bringsThen vkept visKept vkeptAt visWriting) → va_S A H0 H locs → lv_has ls 13 [(10, .int x233_l10), (6, .long (x97_l6 * 10)), (9, .int x97_l9), (8, .int e114_l8), (0, .ref (q 0)), (1, .int p0), (2, .int p1), (3, .int p2), (4, .int p3), (5, .int p4)] → W p l e rmX5_weather s m args below meth c H locs 0 0 Q (F0 m 233 ls []) := by
                        intro fu
                        induction fu with
                        | zero => intro x233_l10 x233_brings H locs ls hw233; cases hw233
                        | succ fu ih233 =>
                          intro x233_l10 x233_brings H locs ls hw233 hP hD hS hl
                          obtain ⟨o233_, hs233, hw233⟩ := wh_el hw233
                          unfold s_X5_weather_233 at hs233
                          dsimp only at hs233
                          refine lv_iload hx hb dX5_weather_233 (lv_at hl 0 rfl) ?_
                          refine lv_bipush (v := 48) hx hb dX5_weather_235 (by decide) ?_
                          refine lv_iload hx hb dX5_weather_237 (lv_at hl 2 rfl) ?_
                          refine lv_isub hx hb dX5_weather_239 ?_
                          refine lv_icmp_gt (tgt := 263) hx hb dX5_weather_240 (by decide) (fun c20 => ?_) (fun c20 => ?_)
                          · rw [if_pos c20] at hs233
                            obtain rfl := Option.some.inj hs233
                            have e9 := Option.some.inj hw233
                            rw [← e9] at hs97
                            exact post233 _ _ _ _ _ hs97 hP hD hS (lv_sub hl [0, 1, 2, 3, 4, 5, 6, 7, 8, 9] rfl)
                          · rw [if_neg c20] at hs233
                            refine lv_aload_n hx hb dX5_weather_243 rfl (lv_at hl 4 rfl) ?_
                            refine va_get (D := D) (ci := 5) (v := .ref (q 16)) (C := RX5) (T := TX5) (N := 33) hx hb hts inX5_weather_X5 hown hK hP 0 rfl rfl 27 (by decide) (hts (.fieldLink RX5 55 "WordScalesModel" "brings" "[J") (List.mem_of_getElem? (i := 5) rfl)) (fun _ h9 => h9) rfl dX5_weather_244 ?_
                            refine lv_iload hx hb dX5_weather_247 (lv_at hl 0 rfl) ?_
                            refine lv_aload_n hx hb dX5_weather_249 rfl (lv_at hl 4 rfl) ?_
                            refine va_get (D := D) (ci := 5) (v := .ref (q 17)) (C := RX5) (T := TX5) (N := 33) hx hb hts inX5_weather_X5 hown hK hP 0 rfl rfl 28 (by decide) (hts (.fieldLink RX5 59 "WordScalesModel" "bringsThen" "[J") (List.mem_of_getElem? (i := 6) rfl)) (fun _ h9 => h9) rfl dX5_weather_250 ?_
                            refine lv_iload hx hb dX5_weather_253 (lv_at hl 0 rfl) ?_
                            obtain ⟨v21, hs233⟩ := chk_el hs233
                            refine va_lald (D := D) (f := e114_bringsThen) hx hb hK hP 17 1 rfl rfl v21 dX5_weather_255 ?_
                            refine va_last (D := D) (f := x233_brings) hx hb hK hP hD hS 16 1 rfl rfl v21 dX5_weather_256 (fun H locs hP hD hS => ?_)
                            have hP : va_P D vwCl (mdW K q vweight vkind vrhymes vpurse vhas vwishes vwishMany vsightLeft vsightRight vsightHow vsights vpad vpadMany vact vwho vwhich vwhom vacts vplace vopenMany vended vspoken vheaviest vheaviestWeight vhad vbadAct vbadWhy (vp_updL x233_brings (x233_l10).toNatClampNeg (e114_bringsThen (x233_l10).toNatClampNeg)) e114_bringsThen vkept visKept vkeptAt visWriting) H := hP
                            have hD : va_D A (mdW K q vweight vkind vrhymes vpurse vhas vwishes vwishMany vsightLeft vsightRight vsightHow vsights vpad vpadMany vact vwho vwhich vwhom vacts vplace vopenMany vended vspoken vheaviest vheaviestWeight vhad vbadAct vbadWhy (vp_updL x233_brings (x233_l10).toNatClampNeg (e114_bringsThen (x233_l10).toNatClampNeg)) e114_bringsThen vkept visKept vkeptAt visWriting) := hD
                            refine lv_iinc (v := (x233_l10 + 1)) (lv' := [(10, .int (x233_l10 + 1)), (6, .long (x97_l6 * 10)), (9, .int x97_l9), (8, .int e114_l8), (0, .ref (q 0)), (1, .int p0), (2, .int p1), (3, .int p2), (4, .int p3), (5, .int p4)]) hx hb dX5_weather_257 hl (k := 0) rfl (by rfl) (by decide) rfl (fun ls hl => ?_)
                            refine lv_goto (tgt := 233) hx hb dX5_weather_260 (by decide) ?_
                            obtain rfl := Option.some.inj hs233
                            exact ih233 _ _ _ _ _ hw233 hP hD hS (lv_sub hl [0, 1, 2, 3, 4, 5, 6, 7, 8, 9] rfl)
                      exact lp233 5000 _ _ _ _ _ hr19 hP hD hS (lv_sub hl [0, 1, 2, 3, 4, 5, 6, 7, 8, 9] rfl)
                    have lp114 : ∀ (fu : Nat) (x114_l8 : Int32) (x114_l10 : Int32) (x114_bringsThen : Nat → Int64) (H : Heap) (locs : List Loc) (ls : Array Slot), wh (s_X5_weather_114 p0 p2 x97_l6 x97_l9 x97_brings) fu (x114_l8, x114_l10, x114_bringsThen) = some r18 → va_P D vwCl (mdW K q vweight vkind vrhymes vpurse vhas vwishes vwishMany vsightLeft vsightRight vsightHow vsights vpad vpadMany vact vwho vwhich vwhom vacts vplace vopenMany vended vspoken vheaviest vheaviestWeight vhad vbadAct vbadWhy x97_brings x114_bringsThen vkept visKept vkeptAt visWriting) H → va_D A (mdW K q vweight vkind vrhymes vpurse vhas vwishes vwishMany vsightLeft vsightRight vsightHow vsights vpad vpadMany vact vwho vwhich vwhom vacts vplace vopenMany vended vspoken vheaviest vheaviestWeight vhad vbadAct vbadWhy x97_brings x114_bringsThen vkept visKept vkeptAt visWriting) → va_S A H0 H locs → lv_has ls 13 [(10, .int x114_l10), (6, .long (x97_l6 * 10)), (9, .int x97_l9), (8, .int x114_l8), (0, .ref (q 0)), (1, .int p0), (2, .int p1), (3, .int p2), (4, .int p3), (5, .int p4)] → W p l e rmX5_weather s m args below meth c H locs 0 0 Q (F0 m 114 ls []) := by
                      intro fu
                      induction fu with
                      | zero => intro x114_l8 x114_l10 x114_bringsThen H locs ls hw114; cases hw114
                      | succ fu ih114 =>
                        intro x114_l8 x114_l10 x114_bringsThen H locs ls hw114 hP hD hS hl
                        obtain ⟨o114_, hs114, hw114⟩ := wh_el hw114
                        unfold s_X5_weather_114 at hs114
                        dsimp only at hs114
                        refine lv_iload hx hb dX5_weather_114 (lv_at hl 0 rfl) ?_
                        refine lv_bipush (v := 48) hx hb dX5_weather_116 (by decide) ?_
                        refine lv_iload hx hb dX5_weather_118 (lv_at hl 2 rfl) ?_
                        refine lv_isub hx hb dX5_weather_120 ?_
                        refine lv_icmp_gt (tgt := 230) hx hb dX5_weather_121 (by decide) (fun c22 => ?_) (fun c22 => ?_)
                        · rw [if_pos c22] at hs114
                          obtain rfl := Option.some.inj hs114
                          have e9 := Option.some.inj hw114
                          rw [← e9] at hs97
                          exact post114 _ _ _ _ _ _ hs97 hP hD hS (lv_sub hl [0, 1, 2, 3, 4, 5, 6, 7, 8, 9] rfl)
                        · rw [if_neg c22] at hs114
                          refine lv_iload_n hx hb dX5_weather_124 rfl (lv_at hl 7 rfl) ?_
                          refine lv_i2l (v := p2.toInt64) hx hb dX5_weather_125 rfl ?_
                          refine lv_aload_n hx hb dX5_weather_126 rfl (lv_at hl 4 rfl) ?_
                          refine va_get (D := D) (ci := 5) (v := .ref (q 16)) (C := RX5) (T := TX5) (N := 33) hx hb hts inX5_weather_X5 hown hK hP 0 rfl rfl 27 (by decide) (hts (.fieldLink RX5 55 "WordScalesModel" "brings" "[J") (List.mem_of_getElem? (i := 5) rfl)) (fun _ h9 => h9) rfl dX5_weather_127 ?_
                          refine lv_iload hx hb dX5_weather_130 (lv_at hl 0 rfl) ?_
                          refine lv_iconst (v := 1) hx hb dX5_weather_132 (by decide) ?_
                          refine lv_iadd hx hb dX5_weather_133 ?_
                          obtain ⟨v23, hs114⟩ := chk_el hs114
                          refine va_lald (D := D) (f := x97_brings) hx hb hK hP 16 1 rfl rfl v23 dX5_weather_134 ?_
                          refine lv_lmul hx hb dX5_weather_135 ?_
                          refine lv_ldc2 hx hb hown (hts (.constantLong RX5 238 (10)) (List.mem_of_getElem? (i := 3) rfl)) dX5_weather_136 ?_
                          refine lv_iload_n hx hb dX5_weather_139 rfl (lv_at hl 7 rfl) ?_
                          refine lv_i2l (v := p2.toInt64) hx hb dX5_weather_140 rfl ?_
                          refine lv_lsub hx hb dX5_weather_141 ?_
                          refine lv_aload_n hx hb dX5_weather_142 rfl (lv_at hl 4 rfl) ?_
                          refine va_get (D := D) (ci := 5) (v := .ref (q 16)) (C := RX5) (T := TX5) (N := 33) hx hb hts inX5_weather_X5 hown hK hP 0 rfl rfl 27 (by decide) (hts (.fieldLink RX5 55 "WordScalesModel" "brings" "[J") (List.mem_of_getElem? (i := 5) rfl)) (fun _ h9 => h9) rfl dX5_weather_143 ?_
                          refine lv_iload hx hb dX5_weather_146 (lv_at hl 0 rfl) ?_
                          refine lv_if_le (tgt := 158) hx hb dX5_weather_148 (by decide) (fun c24 => ?_) (fun c24 => ?_)
                          · rw [if_pos c24] at hs114
                            refine lv_iconst (v := 0) hx hb dX5_weather_158 (by decide) ?_
                            refine va_lald (D := D) (f := x97_brings) hx hb hK hP 16 1 rfl rfl (vp_in_nI (n := 0) (N := 50) (by decide) (by decide)) dX5_weather_159 ?_
                            refine lv_lmul hx hb dX5_weather_160 ?_
                            refine lv_ladd hx hb dX5_weather_161 ?_
                            refine lv_lstore (lv' := [(11, .long ((p2.toInt64 * (x97_brings ((x114_l10 + 1)).toNatClampNeg)) + ((10 - p2.toInt64) * (x97_brings (0 : Int32).toNatClampNeg)))), (10, .int x114_l10), (6, .long (x97_l6 * 10)), (9, .int x97_l9), (8, .int x114_l8), (0, .ref (q 0)), (1, .int p0), (2, .int p1), (3, .int p2), (4, .int p3), (5, .int p4)]) hx hb dX5_weather_162 hl (by decide) rfl (fun ls hl => ?_)
                            refine lv_iload hx hb dX5_weather_164 (lv_at hl 1 rfl) ?_
                            refine lv_iload_n hx hb dX5_weather_166 rfl (lv_at hl 6 rfl) ?_
                            refine lv_icmp_ne (tgt := 190) hx hb dX5_weather_167 (by decide) (fun c25 => ?_) (fun c25 => ?_)
                            · rw [if_neg c25] at hs114
                              refine lv_iload hx hb dX5_weather_190 (lv_at hl 4 rfl) ?_
                              refine lv_istore (lv' := [(8, .int x114_l8), (11, .long ((p2.toInt64 * (x97_brings ((x114_l10 + 1)).toNatClampNeg)) + ((10 - p2.toInt64) * (x97_brings (0 : Int32).toNatClampNeg)))), (10, .int x114_l10), (6, .long (x97_l6 * 10)), (9, .int x97_l9), (0, .ref (q 0)), (1, .int p0), (2, .int p1), (3, .int p2), (4, .int p3), (5, .int p4)]) hx hb dX5_weather_192 hl (by decide) rfl (fun ls hl => ?_)
                              refine lv_aload_n hx hb dX5_weather_194 rfl (lv_at hl 5 rfl) ?_
                              refine va_get (D := D) (ci := 5) (v := .ref (q 17)) (C := RX5) (T := TX5) (N := 33) hx hb hts inX5_weather_X5 hown hK hP 0 rfl rfl 28 (by decide) (hts (.fieldLink RX5 59 "WordScalesModel" "bringsThen" "[J") (List.mem_of_getElem? (i := 6) rfl)) (fun _ h9 => h9) rfl dX5_weather_195 ?_
                              refine lv_iload hx hb dX5_weather_198 (lv_at hl 2 rfl) ?_
                              refine lv_iload hx hb dX5_weather_200 (lv_at hl 2 rfl) ?_
                              refine lv_i2l (v := x114_l10.toInt64) hx hb dX5_weather_202 rfl ?_
                              refine lv_lload hx hb dX5_weather_203 (lv_at hl 3 rfl) ?_
                              refine lv_lmul hx hb dX5_weather_205 ?_
                              refine lv_lload hx hb dX5_weather_206 (lv_at hl 1 rfl) ?_
                              refine W.lcmp hx hb dX5_weather_208 ?_
                              refine lv_if_lt (tgt := 221) hx hb dX5_weather_209 (by decide) (fun c26 => ?_) (fun c26 => ?_)
                              · rw [if_pos c26] at hs114
                                refine lv_lload hx hb dX5_weather_221 (lv_at hl 1 rfl) ?_
                                obtain ⟨v27, hs114⟩ := chk_el hs114
                                refine va_last (D := D) (f := x114_bringsThen) hx hb hK hP hD hS 17 1 rfl rfl v27 dX5_weather_223 (fun H locs hP hD hS => ?_)
                                have hP : va_P D vwCl (mdW K q vweight vkind vrhymes vpurse vhas vwishes vwishMany vsightLeft vsightRight vsightHow vsights vpad vpadMany vact vwho vwhich vwhom vacts vplace vopenMany vended vspoken vheaviest vheaviestWeight vhad vbadAct vbadWhy x97_brings (vp_updL x114_bringsThen (x114_l10).toNatClampNeg ((p2.toInt64 * (x97_brings ((x114_l10 + 1)).toNatClampNeg)) + ((10 - p2.toInt64) * (x97_brings (0 : Int32).toNatClampNeg)))) vkept visKept vkeptAt visWriting) H := hP
                                have hD : va_D A (mdW K q vweight vkind vrhymes vpurse vhas vwishes vwishMany vsightLeft vsightRight vsightHow vsights vpad vpadMany vact vwho vwhich vwhom vacts vplace vopenMany vended vspoken vheaviest vheaviestWeight vhad vbadAct vbadWhy x97_brings (vp_updL x114_bringsThen (x114_l10).toNatClampNeg ((p2.toInt64 * (x97_brings ((x114_l10 + 1)).toNatClampNeg)) + ((10 - p2.toInt64) * (x97_brings (0 : Int32).toNatClampNeg)))) vkept visKept vkeptAt visWriting) := hD
                                refine lv_iinc (v := (x114_l10 + 1)) (lv' := [(10, .int (x114_l10 + 1)), (8, .int x114_l8), (11, .long ((p2.toInt64 * (x97_brings ((x114_l10 + 1)).toNatClampNeg)) + ((10 - p2.toInt64) * (x97_brings (0 : Int32).toNatClampNeg)))), (6, .long (x97_l6 * 10)), (9, .int x97_l9), (0, .ref (q 0)), (1, .int p0), (2, .int p1), (3, .int p2), (4, .int p3), (5, .int p4)]) hx hb dX5_weather_224 hl (k := 2) rfl (by rfl) (by decide) rfl (fun ls hl => ?_)
                                refine lv_goto (tgt := 114) hx hb dX5_weather_227 (by decide) ?_
                                obtain rfl := Option.some.inj hs114
                                exact ih114 _ _ _ _ _ _ hw114 hP hD hS (lv_sub hl [0, 3, 4, 1, 5, 6, 7, 8, 9, 10] rfl)
                              · rw [if_neg c26] at hs114
                                refine lv_iload hx hb dX5_weather_212 (lv_at hl 2 rfl) ?_
                                refine lv_i2l (v := x114_l10.toInt64) hx hb dX5_weather_214 rfl ?_
                                refine lv_lload hx hb dX5_weather_215 (lv_at hl 3 rfl) ?_
                                refine lv_lmul hx hb dX5_weather_217 ?_
                                refine lv_goto (tgt := 223) hx hb dX5_weather_218 (by decide) ?_
                                obtain ⟨v28, hs114⟩ := chk_el hs114
                                refine va_last (D := D) (f := x114_bringsThen) hx hb hK hP hD hS 17 1 rfl rfl v28 dX5_weather_223 (fun H locs hP hD hS => ?_)
                                have hP : va_P D vwCl (mdW K q vweight vkind vrhymes vpurse vhas vwishes vwishMany vsightLeft vsightRight vsightHow vsights vpad vpadMany vact vwho vwhich vwhom vacts vplace vopenMany vended vspoken vheaviest vheaviestWeight vhad vbadAct vbadWhy x97_brings (vp_updL x114_bringsThen (x114_l10).toNatClampNeg (x114_l10.toInt64 * (x97_l6 * 10))) vkept visKept vkeptAt visWriting) H := hP
                                have hD : va_D A (mdW K q vweight vkind vrhymes vpurse vhas vwishes vwishMany vsightLeft vsightRight vsightHow vsights vpad vpadMany vact vwho vwhich vwhom vacts vplace vopenMany vended vspoken vheaviest vheaviestWeight vhad vbadAct vbadWhy x97_brings (vp_updL x114_bringsThen (x114_l10).toNatClampNeg (x114_l10.toInt64 * (x97_l6 * 10))) vkept visKept vkeptAt visWriting) := hD
                                refine lv_iinc (v := (x114_l10 + 1)) (lv' := [(10, .int (x114_l10 + 1)), (8, .int x114_l8), (11, .long ((p2.toInt64 * (x97_brings ((x114_l10 + 1)).toNatClampNeg)) + ((10 - p2.toInt64) * (x97_brings (0 : Int32).toNatClampNeg)))), (6, .long (x97_l6 * 10)), (9, .int x97_l9), (0, .ref (q 0)), (1, .int p0), (2, .int p1), (3, .int p2), (4, .int p3), (5, .int p4)]) hx hb dX5_weather_224 hl (k := 2) rfl (by rfl) (by decide) rfl (fun ls hl => ?_)
                                refine lv_goto (tgt := 114) hx hb dX5_weather_227 (by decide) ?_
                                obtain rfl := Option.some.inj hs114
                                exact ih114 _ _ _ _ _ _ hw114 hP hD hS (lv_sub hl [0, 3, 4, 1, 5, 6, 7, 8, 9, 10] rfl)
                            · rw [if_pos c25] at hs114
                              refine lv_iload hx hb dX5_weather_170 (lv_at hl 1 rfl) ?_
                              refine lv_i2l (v := x114_l10.toInt64) hx hb dX5_weather_172 rfl ?_
                              refine lv_lload hx hb dX5_weather_173 (lv_at hl 2 rfl) ?_
                              refine lv_lmul hx hb dX5_weather_175 ?_
                              refine lv_lload hx hb dX5_weather_176 (lv_at hl 0 rfl) ?_
                              refine W.lcmp hx hb dX5_weather_178 ?_
                              refine lv_if_lt (tgt := 186) hx hb dX5_weather_179 (by decide) (fun c29 => ?_) (fun c29 => ?_)
                              · rw [if_pos c29] at hs114
                                refine lv_iconst (v := 0) hx hb dX5_weather_186 (by decide) ?_
                                refine lv_goto (tgt := 192) hx hb dX5_weather_187 (by decide) ?_
                                refine lv_istore (lv' := [(8, .int 0), (11, .long ((p2.toInt64 * (x97_brings ((x114_l10 + 1)).toNatClampNeg)) + ((10 - p2.toInt64) * (x97_brings (0 : Int32).toNatClampNeg)))), (10, .int x114_l10), (6, .long (x97_l6 * 10)), (9, .int x97_l9), (0, .ref (q 0)), (1, .int p0), (2, .int p1), (3, .int p2), (4, .int p3), (5, .int p4)]) hx hb dX5_weather_192 hl (by decide) rfl (fun ls hl => ?_)
                                refine lv_aload_n hx hb dX5_weather_194 rfl (lv_at hl 5 rfl) ?_
                                refine va_get (D := D) (ci := 5) (v := .ref (q 17)) (C := RX5) (T := TX5) (N := 33) hx hb hts inX5_weather_X5 hown hK hP 0 rfl rfl 28 (by decide) (hts (.fieldLink RX5 59 "WordScalesModel" "bringsThen" "[J") (List.mem_of_getElem? (i := 6) rfl)) (fun _ h9 => h9) rfl dX5_weather_195 ?_
                                refine lv_iload hx hb dX5_weather_198 (lv_at hl 2 rfl) ?_
                                refine lv_iload hx hb dX5_weather_200 (lv_at hl 2 rfl) ?_
                                refine lv_i2l (v := x114_l10.toInt64) hx hb dX5_weather_202 rfl ?_
                                refine lv_lload hx hb dX5_weather_203 (lv_at hl 3 rfl) ?_
                                refine lv_lmul hx hb dX5_weather_205 ?_
                                refine lv_lload hx hb dX5_weather_206 (lv_at hl 1 rfl) ?_
                                refine W.lcmp hx hb dX5_weather_208 ?_
                                refine lv_if_lt (tgt := 221) hx hb dX5_weather_209 (by decide) (fun c30 => ?_) (fun c30 => ?_)
                                · skip
                                  refine lv_lload hx hb dX5_weather_221 (lv_at hl 1 rfl) ?_
                                  obtain ⟨v31, hs114⟩ := chk_el hs114
                                  refine va_last (D := D) (f := x114_bringsThen) hx hb hK hP hD hS 17 1 rfl rfl v31 dX5_weather_223 (fun H locs hP hD hS => ?_)
                                  have hP : va_P D vwCl (mdW K q vweight vkind vrhymes vpurse vhas vwishes vwishMany vsightLeft vsightRight vsightHow vsights vpad vpadMany vact vwho vwhich vwhom vacts vplace vopenMany vended vspoken vheaviest vheaviestWeight vhad vbadAct vbadWhy x97_brings (vp_updL x114_bringsThen (x114_l10).toNatClampNeg ((p2.toInt64 * (x97_brings ((x114_l10 + 1)).toNatClampNeg)) + ((10 - p2.toInt64) * (x97_brings (0 : Int32).toNatClampNeg)))) vkept visKept vkeptAt visWriting) H := hP
                                  have hD : va_D A (mdW K q vweight vkind vrhymes vpurse vhas vwishes vwishMany vsightLeft vsightRight vsightHow vsights vpad vpadMany vact vwho vwhich vwhom vacts vplace vopenMany vended vspoken vheaviest vheaviestWeight vhad vbadAct vbadWhy x97_brings (vp_updL x114_bringsThen (x114_l10).toNatClampNeg ((p2.toInt64 * (x97_brings ((x114_l10 + 1)).toNatClampNeg)) + ((10 - p2.toInt64) * (x97_brings (0 : Int32).toNatClampNeg)))) vkept visKept vkeptAt visWriting) := hD
                                  refine lv_iinc (v := (x114_l10 + 1)) (lv' := [(10, .int (x114_l10 + 1)), (8, .int 0), (11, .long ((p2.toInt64 * (x97_brings ((x114_l10 + 1)).toNatClampNeg)) + ((10 - p2.toInt64) * (x97_brings (0 : Int32).toNatClampNeg)))), (6, .long (x97_l6 * 10)), (9, .int x97_l9), (0, .ref (q 0)), (1, .int p0), (2, .int p1), (3, .int p2), (4, .int p3), (5, .int p4)]) hx hb dX5_weather_224 hl (k := 2) rfl (by rfl) (by decide) rfl (fun ls hl => ?_)
                                  refine lv_goto (tgt := 114) hx hb dX5_weather_227 (by decide) ?_
                                  obtain rfl := Option.some.inj hs114
                                  exact ih114 _ _ _ _ _ _ hw114 hP hD hS (lv_sub hl [0, 3, 4, 1, 5, 6, 7, 8, 9, 10] rfl)
                                · exact absurd c29 c30
                              · rw [if_neg c29] at hs114
                                refine lv_iconst (v := 1) hx hb dX5_weather_182 (by decide) ?_
                                refine lv_goto (tgt := 192) hx hb dX5_weather_183 (by decide) ?_
                                refine lv_istore (lv' := [(8, .int 1), (11, .long ((p2.toInt64 * (x97_brings ((x114_l10 + 1)).toNatClampNeg)) + ((10 - p2.toInt64) * (x97_brings (0 : Int32).toNatClampNeg)))), (10, .int x114_l10), (6, .long (x97_l6 * 10)), (9, .int x97_l9), (0, .ref (q 0)), (1, .int p0), (2, .int p1), (3, .int p2), (4, .int p3), (5, .int p4)]) hx hb dX5_weather_192 hl (by decide) rfl (fun ls hl => ?_)
                                refine lv_aload_n hx hb dX5_weather_194 rfl (lv_at hl 5 rfl) ?_
                                refine va_get (D := D) (ci := 5) (v := .ref (q 17)) (C := RX5) (T := TX5) (N := 33) hx hb hts inX5_weather_X5 hown hK hP 0 rfl rfl 28 (by decide) (hts (.fieldLink RX5 59 "WordScalesModel" "bringsThen" "[J") (List.mem_of_getElem? (i := 6) rfl)) (fun _ h9 => h9) rfl dX5_weather_195 ?_
                                refine lv_iload hx hb dX5_weather_198 (lv_at hl 2 rfl) ?_
                                refine lv_iload hx hb dX5_weather_200 (lv_at hl 2 rfl) ?_
                                refine lv_i2l (v := x114_l10.toInt64) hx hb dX5_weather_202 rfl ?_
                                refine lv_lload hx hb dX5_weather_203 (lv_at hl 3 rfl) ?_
                                refine lv_lmul hx hb dX5_weather_205 ?_
                                refine lv_lload hx hb dX5_weather_206 (lv_at hl 1 rfl) ?_
                                refine W.lcmp hx hb dX5_weather_208 ?_
                                refine lv_if_lt (tgt := 221) hx hb dX5_weather_209 (by decide) (fun c32 => ?_) (fun c32 => ?_)
                                · exact absurd c32 c29
                                · skip
                                  refine lv_iload hx hb dX5_weather_212 (lv_at hl 2 rfl) ?_
                                  refine lv_i2l (v := x114_l10.toInt64) hx hb dX5_weather_214 rfl ?_
                                  refine lv_lload hx hb dX5_weather_215 (lv_at hl 3 rfl) ?_
                                  refine lv_lmul hx hb dX5_weather_217 ?_
                                  refine lv_goto (tgt := 223) hx hb dX5_weather_218 (by decide) ?_
                                  obtain ⟨v33, hs114⟩ := chk_el hs114
                                  refine va_last (D := D) (f := x114_bringsThen) hx hb hK hP hD hS 17 1 rfl rfl v33 dX5_weather_223 (fun H locs hP hD hS => ?_)
                                  have hP : va_P D vwCl (mdW K q vweight vkind vrhymes vpurse vhas vwishes vwishMany vsightLeft vsightRight vsightHow vsights vpad vpadMany vact vwho vwhich vwhom vacts vplace vopenMany vended vspoken vheaviest vheaviestWeight vhad vbadAct vbadWhy x97_brings (vp_updL x114_bringsThen (x114_l10).toNatClampNeg (x114_l10.toInt64 * (x97_l6 * 10))) vkept visKept vkeptAt visWriting) H := hP
                                  have hD : va_D A (mdW K q vweight vkind vrhymes vpurse vhas vwishes vwishMany vsightLeft vsightRight vsightHow vsights vpad vpadMany vact vwho vwhich vwhom vacts vplace vopenMany vended vspoken vheaviest vheaviestWeight vhad vbadAct vbadWhy x97_brings (vp_updL x114_bringsThen (x114_l10).toNatClampNeg (x114_l10.toInt64 * (x97_l6 * 10))) vkept visKept vkeptAt visWriting) := hD
                                  refine lv_iinc (v := (x114_l10 + 1)) (lv' := [(10, .int (x114_l10 + 1)), (8, .int 1), (11, .long ((p2.toInt64 * (x97_brings ((x114_l10 + 1)).toNatClampNeg)) + ((10 - p2.toInt64) * (x97_brings (0 : Int32).toNatClampNeg)))), (6, .long (x97_l6 * 10)), (9, .int x97_l9), (0, .ref (q 0)), (1, .int p0), (2, .int p1), (3, .int p2), (4, .int p3), (5, .int p4)]) hx hb dX5_weather_224 hl (k := 2) rfl (by rfl) (by decide) rfl (fun ls hl => ?_)
                                  refine lv_goto (tgt := 114) hx hb dX5_weather_227 (by decide) ?_
                                  obtain rfl := Option.some.inj hs114
                                  exact ih114 _ _ _ _ _ _ hw114 hP hD hS (lv_sub hl [0, 3, 4, 1, 5, 6, 7, 8, 9, 10] rfl)
                          · rw [if_neg c24] at hs114
                            refine lv_iload hx hb dX5_weather_151 (lv_at hl 0 rfl) ?_
                            refine lv_iconst (v := 1) hx hb dX5_weather_153 (by decide) ?_
                            refine lv_isub hx hb dX5_weather_154 ?_
                            refine lv_goto (tgt := 159) hx hb dX5_weather_155 (by decide) ?_
                            obtain ⟨v34, hs114⟩ := chk_el hs114
                            refine va_lald (D := D) (f := x97_brings) hx hb hK hP 16 1 rfl rfl v34 dX5_weather_159 ?_
                            refine lv_lmul hx hb dX5_weather_160 ?_
                            refine lv_ladd hx hb dX5_weather_161 ?_
                            refine lv_lstore (lv' := [(11, .long ((p2.toInt64 * (x97_brings ((x114_l10 + 1)).toNatClampNeg)) + ((10 - p2.toInt64) * (x97_brings ((x114_l10 - 1)).toNatClampNeg)))), (10, .int x114_l10), (6, .long (x97_l6 * 10)), (9, .int x97_l9), (8, .int x114_l8), (0, .ref (q 0)), (1, .int p0), (2, .int p1), (3, .int p2), (4, .int p3), (5, .int p4)]) hx hb dX5_weather_162 hl (by decide) rfl (fun ls hl => ?_)
                            refine lv_iload hx hb dX5_weather_164 (lv_at hl 1 rfl) ?_
                            refine lv_iload_n hx hb dX5_weather_166 rfl (lv_at hl 6 rfl) ?_
                            refine lv_icmp_ne (tgt := 190) hx hb dX5_weather_167 (by decide) (fun c35 => ?_) (fun c35 => ?_)
                            · rw [if_neg c35] at hs114
                              refine lv_iload hx hb dX5_weather_190 (lv_at hl 4 rfl) ?_
                              refine lv_istore (lv' := [(8, .int x114_l8), (11, .long ((p2.toInt64 * (x97_brings ((x114_l10 + 1)).toNatClampNeg)) + ((10 - p2.toInt64) * (x97_brings ((x114_l10 - 1)).toNatClampNeg)))), (10, .int x114_l10), (6, .long (x97_l6 * 10)), (9, .int x97_l9), (0, .ref (q 0)), (1, .int p0), (2, .int p1), (3, .int p2), (4, .int p3), (5, .int p4)]) hx hb dX5_weather_192 hl (by decide) rfl (fun ls hl => ?_)
                              refine lv_aload_n hx hb dX5_weather_194 rfl (lv_at hl 5 rfl) ?_
                              refine va_get (D := D) (ci := 5) (v := .ref (q 17)) (C := RX5) (T := TX5) (N := 33) hx hb hts inX5_weather_X5 hown hK hP 0 rfl rfl 28 (by decide) (hts (.fieldLink RX5 59 "WordScalesModel" "bringsThen" "[J") (List.mem_of_getElem? (i := 6) rfl)) (fun _ h9 => h9) rfl dX5_weather_195 ?_
                              refine lv_iload hx hb dX5_weather_198 (lv_at hl 2 rfl) ?_
                              refine lv_iload hx hb dX5_weather_200 (lv_at hl 2 rfl) ?_
                              refine lv_i2l (v := x114_l10.toInt64) hx hb dX5_weather_202 rfl ?_
                              refine lv_lload hx hb dX5_weather_203 (lv_at hl 3 rfl) ?_
                              refine lv_lmul hx hb dX5_weather_205 ?_
                              refine lv_lload hx hb dX5_weather_206 (lv_at hl 1 rfl) ?_
                              refine W.lcmp hx hb dX5_weather_208 ?_
                              refine lv_if_lt (tgt := 221) hx hb dX5_weather_209 (by decide) (fun c36 => ?_) (fun c36 => ?_)
                              · rw [if_pos c36] at hs114
                                refine lv_lload hx hb dX5_weather_221 (lv_at hl 1 rfl) ?_
                                obtain ⟨v37, hs114⟩ := chk_el hs114
                                refine va_last (D := D) (f := x114_bringsThen) hx hb hK hP hD hS 17 1 rfl rfl v37 dX5_weather_223 (fun H locs hP hD hS => ?_)
                                have hP : va_P D vwCl (mdW K q vweight vkind vrhymes vpurse vhas vwishes vwishMany vsightLeft vsightRight vsightHow vsights vpad vpadMany vact vwho vwhich vwhom vacts vplace vopenMany vended vspoken vheaviest vheaviestWeight vhad vbadAct vbadWhy x97_brings (vp_updL x114_bringsThen (x114_l10).toNatClampNeg ((p2.toInt64 * (x97_brings ((x114_l10 + 1)).toNatClampNeg)) + ((10 - p2.toInt64) * (x97_brings ((x114_l10 - 1)).toNatClampNeg)))) vkept visKept vkeptAt visWriting) H := hP
                                have hD : va_D A (mdW K q vweight vkind vrhymes vpurse vhas vwishes vwishMany vsightLeft vsightRight vsightHow vsights vpad vpadMany vact vwho vwhich vwhom vacts vplace vopenMany vended vspoken vheaviest vheaviestWeight vhad vbadAct vbadWhy x97_brings (vp_updL x114_bringsThen (x114_l10).toNatClampNeg ((p2.toInt64 * (x97_brings ((x114_l10 + 1)).toNatClampNeg)) + ((10 - p2.toInt64) * (x97_brings ((x114_l10 - 1)).toNatClampNeg)))) vkept visKept vkeptAt visWriting) := hD
                                refine lv_iinc (v := (x114_l10 + 1)) (lv' := [(10, .int (x114_l10 + 1)), (8, .int x114_l8), (11, .long ((p2.toInt64 * (x97_brings ((x114_l10 + 1)).toNatClampNeg)) + ((10 - p2.toInt64) * (x97_brings ((x114_l10 - 1)).toNatClampNeg)))), (6, .long (x97_l6 * 10)), (9, .int x97_l9), (0, .ref (q 0)), (1, .int p0), (2, .int p1), (3, .int p2), (4, .int p3), (5, .int p4)]) hx hb dX5_weather_224 hl (k := 2) rfl (by rfl) (by decide) rfl (fun ls hl => ?_)
                                refine lv_goto (tgt := 114) hx hb dX5_weather_227 (by decide) ?_
                                obtain rfl := Option.some.inj hs114
                                exact ih114 _ _ _ _ _ _ hw114 hP hD hS (lv_sub hl [0, 3, 4, 1, 5, 6, 7, 8, 9, 10] rfl)
                              · rw [if_neg c36] at hs114
                                refine lv_iload hx hb dX5_weather_212 (lv_at hl 2 rfl) ?_
                                refine lv_i2l (v := x114_l10.toInt64) hx hb dX5_weather_214 rfl ?_
                                refine lv_lload hx hb dX5_weather_215 (lv_at hl 3 rfl) ?_
                                refine lv_lmul hx hb dX5_weather_217 ?_
                                refine lv_goto (tgt := 223) hx hb dX5_weather_218 (by decide) ?_
                                obtain ⟨v38, hs114⟩ := chk_el hs114
                                refine va_last (D := D) (f := x114_bringsThen) hx hb hK hP hD hS 17 1 rfl rfl v38 dX5_weather_223 (fun H locs hP hD hS => ?_)
                                have hP : va_P D vwCl (mdW K q vweight vkind vrhymes vpurse vhas vwishes vwishMany vsightLeft vsightRight vsightHow vsights vpad vpadMany vact vwho vwhich vwhom vacts vplace vopenMany vended vspoken vheaviest vheaviestWeight vhad vbadAct vbadWhy x97_brings (vp_updL x114_bringsThen (x114_l10).toNatClampNeg (x114_l10.toInt64 * (x97_l6 * 10))) vkept visKept vkeptAt visWriting) H := hP
                                have hD : va_D A (mdW K q vweight vkind vrhymes vpurse vhas vwishes vwishMany vsightLeft vsightRight vsightHow vsights vpad vpadMany vact vwho vwhich vwhom vacts vplace vopenMany vended vspoken vheaviest vheaviestWeight vhad vbadAct vbadWhy x97_brings (vp_updL x114_bringsThen (x114_l10).toNatClampNeg (x114_l10.toInt64 * (x97_l6 * 10))) vkept visKept vkeptAt visWriting) := hD
                                refine lv_iinc (v := (x114_l10 + 1)) (lv' := [(10, .int (x114_l10 + 1)), (8, .int x114_l8), (11, .long ((p2.toInt64 * (x97_brings ((x114_l10 + 1)).toNatClampNeg)) + ((10 - p2.toInt64) * (x97_brings ((x114_l10 - 1)).toNatClampNeg)))), (6, .long (x97_l6 * 10)), (9, .int x97_l9), (0, .ref (q 0)), (1, .int p0), (2, .int p1), (3, .int p2), (4, .int p3), (5, .int p4)]) hx hb dX5_weather_224 hl (k := 2) rfl (by rfl) (by decide) rfl (fun ls hl => ?_)
                                refine lv_goto (tgt := 114) hx hb dX5_weather_227 (by decide) ?_
                                obtain rfl := Option.some.inj hs114
                                exact ih114 _ _ _ _ _ _ hw114 hP hD hS (lv_sub hl [0, 3, 4, 1, 5, 6, 7, 8, 9, 10] rfl)
                            · rw [if_pos c35] at hs114
                              refine lv_iload hx hb dX5_weather_170 (lv_at hl 1 rfl) ?_
                              refine lv_i2l (v := x114_l10.toInt64) hx hb dX5_weather_172 rfl ?_
                              refine lv_lload hx hb dX5_weather_173 (lv_at hl 2 rfl) ?_
                              refine lv_lmul hx hb dX5_weather_175 ?_
                              refine lv_lload hx hb dX5_weather_176 (lv_at hl 0 rfl) ?_
                              refine W.lcmp hx hb dX5_weather_178 ?_
                              refine lv_if_lt (tgt := 186) hx hb dX5_weather_179 (by decide) (fun c39 => ?_) (fun c39 => ?_)
                              · rw [if_pos c39] at hs114
                                refine lv_iconst (v := 0) hx hb dX5_weather_186 (by decide) ?_
                                refine lv_goto (tgt := 192) hx hb dX5_weather_187 (by decide) ?_
                                refine lv_istore (lv' := [(8, .int 0), (11, .long ((p2.toInt64 * (x97_brings ((x114_l10 + 1)).toNatClampNeg)) + ((10 - p2.toInt64) * (x97_brings ((x114_l10 - 1)).toNatClampNeg)))), (10, .int x114_l10), (6, .long (x97_l6 * 10)), (9, .int x97_l9), (0, .ref (q 0)), (1, .int p0), (2, .int p1), (3, .int p2), (4, .int p3), (5, .int p4)]) hx hb dX5_weather_192 hl (by decide) rfl (fun ls hl => ?_)
                                refine lv_aload_n hx hb dX5_weather_194 rfl (lv_at hl 5 rfl) ?_
                                refine va_get (D := D) (ci := 5) (v := .ref (q 17)) (C := RX5) (T := TX5) (N := 33) hx hb hts inX5_weather_X5 hown hK hP 0 rfl rfl 28 (by decide) (hts (.fieldLink RX5 59 "WordScalesModel" "bringsThen" "[J") (List.mem_of_getElem? (i := 6) rfl)) (fun _ h9 => h9) rfl dX5_weather_195 ?_
                                refine lv_iload hx hb dX5_weather_198 (lv_at hl 2 rfl) ?_
                                refine lv_iload hx hb dX5_weather_200 (lv_at hl 2 rfl) ?_
                                refine lv_i2l (v := x114_l10.toInt64) hx hb dX5_weather_202 rfl ?_
                                refine lv_lload hx hb dX5_weather_203 (lv_at hl 3 rfl) ?_
                                refine lv_lmul hx hb dX5_weather_205 ?_
                                refine lv_lload hx hb dX5_weather_206 (lv_at hl 1 rfl) ?_
                                refine W.lcmp hx hb dX5_weather_208 ?_
                                refine lv_if_lt (tgt := 221) hx hb dX5_weather_209 (by decide) (fun c40 => ?_) (fun c40 => ?_)
                                · skip
                                  refine lv_lload hx hb dX5_weather_221 (lv_at hl 1 rfl) ?_
                                  obtain ⟨v41, hs114⟩ := chk_el hs114
                                  refine va_last (D := D) (f := x114_bringsThen) hx hb hK hP hD hS 17 1 rfl rfl v41 dX5_weather_223 (fun H locs hP hD hS => ?_)
                                  have hP : va_P D vwCl (mdW K q vweight vkind vrhymes vpurse vhas vwishes vwishMany vsightLeft vsightRight vsightHow vsights vpad vpadMany vact vwho vwhich vwhom vacts vplace vopenMany vended vspoken vheaviest vheaviestWeight vhad vbadAct vbadWhy x97_brings (vp_updL x114_bringsThen (x114_l10).toNatClampNeg ((p2.toInt64 * (x97_brings ((x114_l10 + 1)).toNatClampNeg)) + ((10 - p2.toInt64) * (x97_brings ((x114_l10 - 1)).toNatClampNeg)))) vkept visKept vkeptAt visWriting) H := hP
                                  have hD : va_D A (mdW K q vweight vkind vrhymes vpurse vhas vwishes vwishMany vsightLeft vsightRight vsightHow vsights vpad vpadMany vact vwho vwhich vwhom vacts vplace vopenMany vended vspoken vheaviest vheaviestWeight vhad vbadAct vbadWhy x97_brings (vp_updL x114_bringsThen (x114_l10).toNatClampNeg ((p2.toInt64 * (x97_brings ((x114_l10 + 1)).toNatClampNeg)) + ((10 - p2.toInt64) * (x97_brings ((x114_l10 - 1)).toNatClampNeg)))) vkept visKept vkeptAt visWriting) := hD
                                  refine lv_iinc (v := (x114_l10 + 1)) (lv' := [(10, .int (x114_l10 + 1)), (8, .int 0), (11, .long ((p2.toInt64 * (x97_brings ((x114_l10 + 1)).toNatClampNeg)) + ((10 - p2.toInt64) * (x97_brings ((x114_l10 - 1)).toNatClampNeg)))), (6, .long (x97_l6 * 10)), (9, .int x97_l9), (0, .ref (q 0)), (1, .int p0), (2, .int p1), (3, .int p2), (4, .int p3), (5, .int p4)]) hx hb dX5_weather_224 hl (k := 2) rfl (by rfl) (by decide) rfl (fun ls hl => ?_)
                                  refine lv_goto (tgt := 114) hx hb dX5_weather_227 (by decide) ?_
                                  obtain rfl := Option.some.inj hs114
                                  exact ih114 _ _ _ _ _ _ hw114 hP hD hS (lv_sub hl [0, 3, 4, 1, 5, 6, 7, 8, 9, 10] rfl)
                                · exact absurd c39 c40
                              · rw [if_neg c39] at hs114
                                refine lv_iconst (v := 1) hx hb dX5_weather_182 (by decide) ?_
                                refine lv_goto (tgt := 192) hx hb dX5_weather_183 (by decide) ?_
                                refine lv_istore (lv' := [(8, .int 1), (11, .long ((p2.toInt64 * (x97_brings ((x114_l10 + 1)).toNatClampNeg)) + ((10 - p2.toInt64) * (x97_brings ((x114_l10 - 1)).toNatClampNeg)))), (10, .int x114_l10), (6, .long (x97_l6 * 10)), (9, .int x97_l9), (0, .ref (q 0)), (1, .int p0), (2, .int p1), (3, .int p2), (4, .int p3), (5, .int p4)]) hx hb dX5_weather_192 hl (by decide) rfl (fun ls hl => ?_)
                                refine lv_aload_n hx hb dX5_weather_194 rfl (lv_at hl 5 rfl) ?_
                                refine va_get (D := D) (ci := 5) (v := .ref (q 17)) (C := RX5) (T := TX5) (N := 33) hx hb hts inX5_weather_X5 hown hK hP 0 rfl rfl 28 (by decide) (hts (.fieldLink RX5 59 "WordScalesModel" "bringsThen" "[J") (List.mem_of_getElem? (i := 6) rfl)) (fun _ h9 => h9) rfl dX5_weather_195 ?_
                                refine lv_iload hx hb dX5_weather_198 (lv_at hl 2 rfl) ?_
                                refine lv_iload hx hb dX5_weather_200 (lv_at hl 2 rfl) ?_
                                refine lv_i2l (v := x114_l10.toInt64) hx hb dX5_weather_202 rfl ?_
                                refine lv_lload hx hb dX5_weather_203 (lv_at hl 3 rfl) ?_
                                refine lv_lmul hx hb dX5_weather_205 ?_
                                refine lv_lload hx hb dX5_weather_206 (lv_at hl 1 rfl) ?_
                                refine W.lcmp hx hb dX5_weather_208 ?_
                                refine lv_if_lt (tgt := 221) hx hb dX5_weather_209 (by decide) (fun c42 => ?_) (fun c42 => ?_)
                                · exact absurd c42 c39
                                · skip
                                  refine lv_iload hx hb dX5_weather_212 (lv_at hl 2 rfl) ?_
                                  refine lv_i2l (v := x114_l10.toInt64) hx hb dX5_weather_214 rfl ?_
                                  refine lv_lload hx hb dX5_weather_215 (lv_at hl 3 rfl) ?_
                                  refine lv_lmul hx hb dX5_weather_217 ?_
                                  refine lv_goto (tgt := 223) hx hb dX5_weather_218 (by decide) ?_
                                  obtain ⟨v43, hs114⟩ := chk_el hs114
                                  refine va_last (D := D) (f := x114_bringsThen) hx hb hK hP hD hS 17 1 rfl rfl v43 dX5_weather_223 (fun H locs hP hD hS => ?_)
                                  have hP : va_P D vwCl (mdW K q vweight vkind vrhymes vpurse vhas vwishes vwishMany vsightLeft vsightRight vsightHow vsights vpad vpadMany vact vwho vwhich vwhom vacts vplace vopenMany vended vspoken vheaviest vheaviestWeight vhad vbadAct vbadWhy x97_brings (vp_updL x114_bringsThen (x114_l10).toNatClampNeg (x114_l10.toInt64 * (x97_l6 * 10))) vkept visKept vkeptAt visWriting) H := hP
                                  have hD : va_D A (mdW K q vweight vkind vrhymes vpurse vhas vwishes vwishMany vsightLeft vsightRight vsightHow vsights vpad vpadMany vact vwho vwhich vwhom vacts vplace vopenMany vended vspoken vheaviest vheaviestWeight vhad vbadAct vbadWhy x97_brings (vp_updL x114_bringsThen (x114_l10).toNatClampNeg (x114_l10.toInt64 * (x97_l6 * 10))) vkept visKept vkeptAt visWriting) := hD
                                  refine lv_iinc (v := (x114_l10 + 1)) (lv' := [(10, .int (x114_l10 + 1)), (8, .int 1), (11, .long ((p2.toInt64 * (x97_brings ((x114_l10 + 1)).toNatClampNeg)) + ((10 - p2.toInt64) * (x97_brings ((x114_l10 - 1)).toNatClampNeg)))), (6, .long (x97_l6 * 10)), (9, .int x97_l9), (0, .ref (q 0)), (1, .int p0), (2, .int p1), (3, .int p2), (4, .int p3), (5, .int p4)]) hx hb dX5_weather_224 hl (k := 2) rfl (by rfl) (by decide) rfl (fun ls hl => ?_)
                                  refine lv_goto (tgt := 114) hx hb dX5_weather_227 (by decide) ?_
                                  obtain rfl := Option.some.inj hs114
                                  exact ih114 _ _ _ _ _ _ hw114 hP hD hS (lv_sub hl [0, 3, 4, 1, 5, 6, 7, 8, 9, 10] rfl)
                    exact lp114 5000 _ _ _ _ _ _ hr18 hP hD hS (lv_sub hl [0, 1, 2, 3, 4, 5, 6, 7, 8, 9] rfl)
              exact lp97 5000 _ _ _ _ _ _ _ _ hr12 hP hD hS (lv_sub hl [0, 1, 2, 3, 4, 5, 6, 7, 8] rfl)
            have lp65 : ∀ (fu : Nat) (x65_l6 : Int32) (x65_brings : Nat → Int64) (H : Heap) (locs : List Loc) (ls : Array Slot), wh (s_X5_weather_65) fu (x65_l6, x65_brings) = some r11 → va_P D vwCl (mdW K q vweight vkind vrhymes vpurse vhas vwishes vwishMany vsightLeft vsightRight vsightHow vsights vpad vpadMany vact vwho vwhich vwhom vacts vplace vopenMany vended vspoken vheaviest vheaviestWeight vhad vbadAct vbadWhy x65_brings vbringsThen vkept visKept vkeptAt visWriting) H → va_D A (mdW K q vweight vkind vrhymes vpurse vhas vwishes vwishMany vsightLeft vsightRight vsightHow vsights vpad vpadMany vact vwho vwhich vwhom vacts vplace vopenMany vended vspoken vheaviest vheaviestWeight vhad vbadAct vbadWhy x65_brings vbringsThen vkept visKept vkeptAt visWriting) → va_S A H0 H locs → lv_has ls 13 [(6, .int x65_l6), (0, .ref (q 0)), (1, .int p0), (2, .int p1), (3, .int p2), (4, .int p3), (5, .int p4)] → W p l e rmX5_weather s m args below meth c H locs 0 0 Q (F0 m 65 ls []) := by
              intro fu
              induction fu with
              | zero => intro x65_l6 x65_brings H locs ls hw65; cases hw65
              | succ fu ih65 =>
                intro x65_l6 x65_brings H locs ls hw65 hP hD hS hl
                obtain ⟨o65_, hs65, hw65⟩ := wh_el hw65
                unfold s_X5_weather_65 at hs65
                dsimp only at hs65
                refine lv_iload hx hb dX5_weather_65 (lv_at hl 0 rfl) ?_
                refine lv_bipush (v := 50) hx hb dX5_weather_67 (by decide) ?_
                refine lv_icmp_ge (tgt := 88) hx hb dX5_weather_69 (by decide) (fun c44 => ?_) (fun c44 => ?_)
                · rw [if_pos c44] at hs65
                  obtain rfl := Option.some.inj hs65
                  have e9 := Option.some.inj hw65
                  rw [← e9] at hf
                  exact post65 _ _ _ _ _ hf hP hD hS (lv_sub hl [0, 1, 2, 3, 4, 5, 6] rfl)
                · rw [if_neg c44] at hs65
                  refine lv_aload_n hx hb dX5_weather_72 rfl (lv_at hl 1 rfl) ?_
                  refine va_get (D := D) (ci := 5) (v := .ref (q 16)) (C := RX5) (T := TX5) (N := 33) hx hb hts inX5_weather_X5 hown hK hP 0 rfl rfl 27 (by decide) (hts (.fieldLink RX5 55 "WordScalesModel" "brings" "[J") (List.mem_of_getElem? (i := 5) rfl)) (fun _ h9 => h9) rfl dX5_weather_73 ?_
                  refine lv_iload hx hb dX5_weather_76 (lv_at hl 0 rfl) ?_
                  refine lv_iload hx hb dX5_weather_78 (lv_at hl 0 rfl) ?_
                  refine lv_i2l (v := x65_l6.toInt64) hx hb dX5_weather_80 rfl ?_
                  obtain ⟨v45, hs65⟩ := chk_el hs65
                  refine va_last (D := D) (f := x65_brings) hx hb hK hP hD hS 16 1 rfl rfl v45 dX5_weather_81 (fun H locs hP hD hS => ?_)
                  have hP : va_P D vwCl (mdW K q vweight vkind vrhymes vpurse vhas vwishes vwishMany vsightLeft vsightRight vsightHow vsights vpad vpadMany vact vwho vwhich vwhom vacts vplace vopenMany vended vspoken vheaviest vheaviestWeight vhad vbadAct vbadWhy (vp_updL x65_brings (x65_l6).toNatClampNeg x65_l6.toInt64) vbringsThen vkept visKept vkeptAt visWriting) H := hP
                  have hD : va_D A (mdW K q vweight vkind vrhymes vpurse vhas vwishes vwishMany vsightLeft vsightRight vsightHow vsights vpad vpadMany vact vwho vwhich vwhom vacts vplace vopenMany vended vspoken vheaviest vheaviestWeight vhad vbadAct vbadWhy (vp_updL x65_brings (x65_l6).toNatClampNeg x65_l6.toInt64) vbringsThen vkept visKept vkeptAt visWriting) := hD
                  refine lv_iinc (v := (x65_l6 + 1)) (lv' := [(6, .int (x65_l6 + 1)), (0, .ref (q 0)), (1, .int p0), (2, .int p1), (3, .int p2), (4, .int p3), (5, .int p4)]) hx hb dX5_weather_82 hl (k := 0) rfl (by rfl) (by decide) rfl (fun ls hl => ?_)
                  refine lv_goto (tgt := 65) hx hb dX5_weather_85 (by decide) ?_
                  obtain rfl := Option.some.inj hs65
                  exact ih65 _ _ _ _ _ hw65 hP hD hS (lv_sub hl [0, 1, 2, 3, 4, 5, 6] rfl)
            exact lp65 5000 _ _ _ _ _ hr11 hP hD hS (lv_sub hl [0, 1, 2, 3, 4, 5, 6] rfl)
          · rw [if_pos c10] at hf
            refine lv_ldc2 hx hb hown (hts (.constantLong RX5 240 (-1000000000000000002)) (List.mem_of_getElem? (i := 4) rfl)) dX5_weather_58 ?_
            obtain rfl := Option.some.inj hf
            exact hret rfl rfl hP hD hS dX5_weather_61
def s_X5_synonyms_73 (p1 : Int32) (p2 : Int32) (p3 : Int32) (x : Int32 × Int32) : Option ((Int32 × Int32) ⊕ (Int32 × Int32)) := if p3 ≤ x.2 then (some (.inr (x.1, x.2))) else (if (x.1 - 1) ≤ p1 then (some (.inl (p2, (x.2 + 1)))) else (some (.inl ((x.1 - 1), (x.2 + 1)))))
def f_X5_synonyms (p0 : Int32) (p1 : Int32) (p2 : Int32) (p3 : Int32) : Option (Int32) := bd (f_X5_in p0.toInt64 (0) (40)) (fun o1 => if o1 = 0 then (some (-2)) else (bd (f_X5_in p1.toInt64 (0) (20)) (fun o3 => if o3 = 0 then (some (-2)) else (bd (f_X5_in p2.toInt64 (p1.toInt64 + 1) (40)) (fun o5 => if o5 = 0 then (some (-2)) else (bd (f_X5_in p3.toInt64 (-1) (99)) (fun o7 => if o7 = 0 then (some (-2)) else (if p3 = (-1) then (some (p2 - p1)) else (ob (wh (s_X5_synonyms_73 p1 p2 p3) 5000 (p0, 0)) (fun r10 => some r10.1))))))))))
theorem yd_X5_synonyms : yX5_synonyms.cls ≠ "java/lang/invoke/MethodHandle" ∧ yX5_synonyms.cls ≠ "java/lang/invoke/VarHandle" ∧ (parseMethodDescriptor yX5_synonyms.desc).map (fun d => d.parameters.length) = some 4 := by decide +kernel
abbrev rmX5_synonyms : Room := { frames := 1, cells := 0, slots := 0, locals := 25 }
set_option maxHeartbeats 4000000 in
set_option maxRecDepth 100000 in
theorem k_X5_synonyms (l : Launch) (D : va_G) (K : Nat → ClassId) (q : Nat → Nat) (vweight : Nat → Int32) (vkind : Nat → Int32) (vrhymes : Nat → Int32) (vpurse : Nat → Int32) (vhas : Nat → Int32) (vwishes : Nat → Int32) (vwishMany : Int32) (vsightLeft : Nat → Int32) (vsightRight : Nat → Int32) (vsightHow : Nat → Int32) (vsights : Int32) (vpad : Nat → Int32) (vpadMany : Int32) (vact : Nat → Int32) (vwho : Nat → Int32) (vwhich : Nat → Int32) (vwhom : Nat → Int32) (vacts : Int32) (vplace : Int32) (vopenMany : Int32) (vended : Int32) (vspoken : Int32) (vheaviest : Int32) (vheaviestWeight : Int32) (vhad : Nat → Int32) (vbadAct : Int32) (vbadWhy : Int32) (vbrings : Nat → Int64) (vbringsThen : Nat → Int64) (vkept : Nat → Int32) (visKept : Nat → Int32) (vkeptAt : Int32) (visWriting : Int32) (p0 : Int32) (p1 : Int32) (p2 : Int32) (p3 : Int32) (out : Int32) (hf : f_X5_synonyms p0 p1 p2 p3 = some out) : kI l D K .int yX5_synonyms wsX5_synonyms rmX5_synonyms [.ref (q 0), .int p0, .int p1, .int p2, .int p3] (mdW K q vweight vkind vrhymes vpurse vhas vwishes vwishMany vsightLeft vsightRight vsightHow vsights vpad vpadMany vact vwho vwhich vwhom vacts vplace vopenMany vended vspoken vheaviest vheaviestWeight vhad vbadAct vbadWhy vbrings vbringsThen vkept visKept vkeptAt visWriting) out (mdW K q vweight vkind vrhymes vpurse vhas vwishes vwishMany vsightLeft vsightRight vsightHow vsights vpad vpadMany vact vwho vwhich vwhom vacts vplace vopenMany vended vspoken vheaviest vheaviestWeight vhad vbadAct vbadWhy vbrings vbringsThen vkept visKept vkeptAt visWriting) := by
  refine kI.of (cc := cX5_synonyms) (maxL := 7) (by decide) rfl (Nat.le_of_ble_eq_true rfl) ?_
  intro p e s m args below meth c A H0 Q ls hx hb hml hown hts hK hN hA hP hD hS hl hret
  have hown : s.vm.findClass RX5 = some m.cls := hown
  have hl : lv_has ls 7 [(0, .ref (q 0)), (1, .int p0), (2, .int p1), (3, .int p2), (4, .int p3)] := hl
  generalize hH : H0 = H at hP ⊢
  have hS : va_S A H0 H [] := by rw [← hH]; exact hS
  clear hH
  unfold f_X5_synonyms at hf
  refine lv_iload_n hx hb dX5_synonyms_0 rfl (lv_at hl 1 rfl) ?_
  refine lv_i2l (v := p0.toInt64) hx hb dX5_synonyms_1 rfl ?_
  refine lv_lconst (v := 0) hx hb dX5_synonyms_2 (by decide) ?_
  refine lv_ldc2 hx hb hown (hts (.constantLong RX5 236 (40)) (List.mem_of_getElem? (i := 1) rfl)) dX5_synonyms_3 ?_
  obtain ⟨o1, ho1, hf⟩ := bd_el hf
  refine kc0_i (D := D) (va_runS (As := [.long p0.toInt64, .long 0, .long 40]) (rest := []) ⟨hx, hb, hml, hown, hts⟩ ((k_X5_in l D K p0.toInt64 (0) (40) o1 ho1) H.size) (va_cwS 3 hts gX5_synonyms_X5_in rfl rfl rfl yd_X5_in ⟨Nat.le_of_ble_eq_true rfl, Nat.le_of_ble_eq_true rfl⟩) (kPreS va_P_nil (va_D_nil (A := fun _ => True)) hK hN) rfl rfl hl.1 rfl (lv_room (Nat.le_of_ble_eq_true rfl)) dX5_synonyms_6 ⟨Nat.le_of_ble_eq_true rfl, Nat.le_of_ble_eq_true rfl⟩) hP hS hA (fun hzo1 H locs hP hS => ?_)
  refine lv_if_eq (tgt := 54) hx hb dX5_synonyms_9 (by decide) (fun c2 => ?_) (fun c2 => ?_)
  · rw [if_pos c2] at hf
    refine lv_bipush (v := (-2)) hx hb dX5_synonyms_54 (by decide) ?_
    obtain rfl := Option.some.inj hf
    exact hret rfl rfl rfl hP hD hS dX5_synonyms_56
  · rw [if_neg c2] at hf
    refine lv_iload_n hx hb dX5_synonyms_12 rfl (lv_at hl 2 rfl) ?_
    refine lv_i2l (v := p1.toInt64) hx hb dX5_synonyms_13 rfl ?_
    refine lv_lconst (v := 0) hx hb dX5_synonyms_14 (by decide) ?_
    refine lv_ldc2 hx hb hown (hts (.constantLong RX5 246 (20)) (List.mem_of_getElem? (i := 2) rfl)) dX5_synonyms_15 ?_
    obtain ⟨o3, ho3, hf⟩ := bd_el hf
    refine kc0_i (D := D) (va_runS (As := [.long p1.toInt64, .long 0, .long 20]) (rest := []) ⟨hx, hb, hml, hown, hts⟩ ((k_X5_in l D K p1.toInt64 (0) (20) o3 ho3) H.size) (va_cwS 3 hts gX5_synonyms_X5_in rfl rfl rfl yd_X5_in ⟨Nat.le_of_ble_eq_true rfl, Nat.le_of_ble_eq_true rfl⟩) (kPreS va_P_nil (va_D_nil (A := fun _ => True)) hK hN) rfl rfl hl.1 rfl (lv_room (Nat.le_of_ble_eq_true rfl)) dX5_synonyms_18 ⟨Nat.le_of_ble_eq_true rfl, Nat.le_of_ble_eq_true rfl⟩) hP hS hA (fun hzo3 H locs hP hS => ?_)
    refine lv_if_eq (tgt := 54) hx hb dX5_synonyms_21 (by decide) (fun c4 => ?_) (fun c4 => ?_)
    · rw [if_pos c4] at hf
      refine lv_bipush (v := (-2)) hx hb dX5_synonyms_54 (by decide) ?_
      obtain rfl := Option.some.inj hf
      exact hret rfl rfl rfl hP hD hS dX5_synonyms_56
    · rw [if_neg c4] at hf
      refine lv_iload_n hx hb dX5_synonyms_24 rfl (lv_at hl 3 rfl) ?_
      refine lv_i2l (v := p2.toInt64) hx hb dX5_synonyms_25 rfl ?_
      refine lv_iload_n hx hb dX5_synonyms_26 rfl (lv_at hl 2 rfl) ?_
      refine lv_i2l (v := p1.toInt64) hx hb dX5_synonyms_27 rfl ?_
      refine lv_lconst (v := 1) hx hb dX5_synonyms_28 (by decide) ?_
      refine lv_ladd hx hb dX5_synonyms_29 ?_
      refine lv_ldc2 hx hb hown (hts (.constantLong RX5 236 (40)) (List.mem_of_getElem? (i := 1) rfl)) dX5_synonyms_30 ?_
      obtain ⟨o5, ho5, hf⟩ := bd_el hf
      refine kc0_i (D := D) (va_runS (As := [.long p2.toInt64, .long (p1.toInt64 + 1), .long 40]) (rest := []) ⟨hx, hb, hml, hown, hts⟩ ((k_X5_in l D K p2.toInt64 (p1.toInt64 + 1) (40) o5 ho5) H.size) (va_cwS 3 hts gX5_synonyms_X5_in rfl rfl rfl yd_X5_in ⟨Nat.le_of_ble_eq_true rfl, Nat.le_of_ble_eq_true rfl⟩) (kPreS va_P_nil (va_D_nil (A := fun _ => True)) hK hN) rfl rfl hl.1 rfl (lv_room (Nat.le_of_ble_eq_true rfl)) dX5_synonyms_33 ⟨Nat.le_of_ble_eq_true rfl, Nat.le_of_ble_eq_true rfl⟩) hP hS hA (fun hzo5 H locs hP hS => ?_)
      refine lv_if_eq (tgt := 54) hx hb dX5_synonyms_36 (by decide) (fun c6 => ?_) (fun c6 => ?_)
      · rw [if_pos c6] at hf
        refine lv_bipush (v := (-2)) hx hb dX5_synonyms_54 (by decide) ?_
        obtain rfl := Option.some.inj hf
        exact hret rfl rfl rfl hP hD hS dX5_synonyms_56
      · rw [if_neg c6] at hf
        refine lv_iload hx hb dX5_synonyms_39 (lv_at hl 4 rfl) ?_
        refine lv_i2l (v := p3.toInt64) hx hb dX5_synonyms_41 rfl ?_
        refine lv_ldc2 hx hb hown (hts (.constantLong RX5 196 (-1)) (List.mem_of_getElem? (i := 3) rfl)) dX5_synonyms_42 ?_
        refine lv_ldc2 hx hb hown (hts (.constantLong RX5 81 (99)) (List.mem_of_getElem? (i := 4) rfl)) dX5_synonyms_45 ?_
        obtain ⟨o7, ho7, hf⟩ := bd_el hf
        refine kc0_i (D := D) (va_runS (As := [.long p3.toInt64, .long (-1), .long 99]) (rest := []) ⟨hx, hb, hml, hown, hts⟩ ((k_X5_in l D K p3.toInt64 (-1) (99) o7 ho7) H.size) (va_cwS 3 hts gX5_synonyms_X5_in rfl rfl rfl yd_X5_in ⟨Nat.le_of_ble_eq_true rfl, Nat.le_of_ble_eq_true rfl⟩) (kPreS va_P_nil (va_D_nil (A := fun _ => True)) hK hN) rfl rfl hl.1 rfl (lv_room (Nat.le_of_ble_eq_true rfl)) dX5_synonyms_48 ⟨Nat.le_of_ble_eq_true rfl, Nat.le_of_ble_eq_true rfl⟩) hP hS hA (fun hzo7 H locs hP hS => ?_)
        refine lv_if_ne (tgt := 57) hx hb dX5_synonyms_51 (by decide) (fun c8 => ?_) (fun c8 => ?_)
        · rw [if_neg c8] at hf
          refine lv_iload hx hb dX5_synonyms_57 (lv_at hl 4 rfl) ?_
          refine lv_iconst (v := (-1)) hx hb dX5_synonyms_59 (by decide) ?_
          refine lv_icmp_ne (tgt := 67) hx hb dX5_synonyms_60 (by decide) (fun c9 => ?_) (fun c9 => ?_)
          · rw [if_neg c9] at hf
            refine lv_iload_n hx hb dX5_synonyms_67 rfl (lv_at hl 1 rfl) ?_
            refine lv_istore (lv' := [(5, .int p0), (0, .ref (q 0)), (1, .int p0), (2, .int p1), (3, .int p2), (4, .int p3)]) hx hb dX5_synonyms_68 hl (by decide) rfl (fun ls hl => ?_)
            refine lv_iconst (v := 0) hx hb dX5_synonyms_70 (by decide) ?_
            refine lv_istore (lv' := [(6, .int 0), (5, .int p0), (0, .ref (q 0)), (1, .int p0), (2, .int p1), (3, .int p2), (4, .int p3)]) hx hb dX5_synonyms_71 hl (by decide) rfl (fun ls hl => ?_)
            obtain ⟨r10, hr10, hf⟩ := ob_el hf
            have post73 : ∀ (e73_l5 : Int32) (e73_l6 : Int32) (H : Heap) (locs : List Loc) (ls : Array Slot), (some e73_l5) = some out → va_P D vwCl (mdW K q vweight vkind vrhymes vpurse vhas vwishes vwishMany vsightLeft vsightRight vsightHow vsights vpad vpadMany vact vwho vwhich vwhom vacts vplace vopenMany vended vspoken vheaviest vheaviestWeight vhad vbadAct vbadWhy vbrings vbringsThen vkept visKept vkeptAt visWriting) H → va_D A (mdW K q vweight vkind vrhymes vpurse vhas vwishes vwishMany vsightLeft vsightRight vsightHow vsights vpad vpadMany vact vwho vwhich vwhom vacts vplace vopenMany vended vspoken vheaviest vheaviestWeight vhad vbadAct vbadWhy vbrings vbringsThen vkept visKept vkeptAt visWriting) → va_S A H0 H locs → lv_has ls 7 [(6, .int e73_l6), (5, .int e73_l5), (0, .ref (q 0)), (1, .int p0), (2, .int p1), (3, .int p2), (4, .int p3)] → W p l e rmX5_synonyms s m args below meth c H locs 0 0 Q (F0 m 104 ls []) := by
              intro e73_l5 e73_l6 H locs ls hf hP hD hS hl
              refine lv_iload hx hb dX5_synonyms_104 (lv_at hl 1 rfl) ?_
              obtain rfl := Option.some.inj hf
              exact hret rfl rfl rfl hP hD hS dX5_synonyms_106
            have lp73 : ∀ (fu : Nat) (x73_l5 : Int32) (x73_l6 : Int32) (H : Heap) (locs : List Loc) (ls : Array Slot), wh (s_X5_synonyms_73 p1 p2 p3) fu (x73_l5, x73_l6) = some r10 → va_P D vwCl (mdW K q vweight vkind vrhymes vpurse vhas vwishes vwishMany vsightLeft vsightRight vsightHow vsights vpad vpadMany vact vwho vwhich vwhom vacts vplace vopenMany vended vspoken vheaviest vheaviestWeight vhad vbadAct vbadWhy vbrings vbringsThen vkept visKept vkeptAt visWriting) H → va_D A (mdW K q vweight vkind vrhymes vpurse vhas vwishes vwishMany vsightLeft vsightRight vsightHow vsights vpad vpadMany vact vwho vwhich vwhom vacts vplace vopenMany vended vspoken vheaviest vheaviestWeight vhad vbadAct vbadWhy vbrings vbringsThen vkept visKept vkeptAt visWriting) → va_S A H0 H locs → lv_has ls 7 [(6, .int x73_l6), (5, .int x73_l5), (0, .ref (q 0)), (1, .int p0), (2, .int p1), (3, .int p2), (4, .int p3)] → W p l e rmX5_synonyms s m args below meth c H locs 0 0 Q (F0 m 73 ls []) := by
              intro fu
              induction fu with
              | zero => intro x73_l5 x73_l6 H locs ls hw73; cases hw73
              | succ fu ih73 =>
                intro x73_l5 x73_l6 H locs ls hw73 hP hD hS hl
                obtain ⟨o73_, hs73, hw73⟩ := wh_el hw73
                unfold s_X5_synonyms_73 at hs73
                dsimp only at hs73
                refine lv_iload hx hb dX5_synonyms_73 (lv_at hl 0 rfl) ?_
                refine lv_iload hx hb dX5_synonyms_75 (lv_at hl 6 rfl) ?_
                refine lv_icmp_ge (tgt := 104) hx hb dX5_synonyms_77 (by decide) (fun c11 => ?_) (fun c11 => ?_)
                · rw [if_pos c11] at hs73
                  obtain rfl := Option.some.inj hs73
                  have e9 := Option.some.inj hw73
                  rw [← e9] at hf
                  exact post73 _ _ _ _ _ hf hP hD hS (lv_sub hl [0, 1, 2, 3, 4, 5, 6] rfl)
                · rw [if_neg c11] at hs73
                  refine lv_iload hx hb dX5_synonyms_80 (lv_at hl 1 rfl) ?_
                  refine lv_iconst (v := 1) hx hb dX5_synonyms_82 (by decide) ?_
                  refine lv_isub hx hb dX5_synonyms_83 ?_
                  refine lv_iload_n hx hb dX5_synonyms_84 rfl (lv_at hl 4 rfl) ?_
                  refine lv_icmp_le (tgt := 95) hx hb dX5_synonyms_85 (by decide) (fun c12 => ?_) (fun c12 => ?_)
                  · rw [if_pos c12] at hs73
                    refine lv_iload_n hx hb dX5_synonyms_95 rfl (lv_at hl 5 rfl) ?_
                    refine lv_istore (lv' := [(5, .int p2), (6, .int x73_l6), (0, .ref (q 0)), (1, .int p0), (2, .int p1), (3, .int p2), (4, .int p3)]) hx hb dX5_synonyms_96 hl (by decide) rfl (fun ls hl => ?_)
                    refine lv_iinc (v := (x73_l6 + 1)) (lv' := [(6, .int (x73_l6 + 1)), (5, .int p2), (0, .ref (q 0)), (1, .int p0), (2, .int p1), (3, .int p2), (4, .int p3)]) hx hb dX5_synonyms_98 hl (k := 1) rfl (by rfl) (by decide) rfl (fun ls hl => ?_)
                    refine lv_goto (tgt := 73) hx hb dX5_synonyms_101 (by decide) ?_
                    obtain rfl := Option.some.inj hs73
                    exact ih73 _ _ _ _ _ hw73 hP hD hS (lv_sub hl [0, 1, 2, 3, 4, 5, 6] rfl)
                  · rw [if_neg c12] at hs73
                    refine lv_iload hx hb dX5_synonyms_88 (lv_at hl 1 rfl) ?_
                    refine lv_iconst (v := 1) hx hb dX5_synonyms_90 (by decide) ?_
                    refine lv_isub hx hb dX5_synonyms_91 ?_
                    refine lv_goto (tgt := 96) hx hb dX5_synonyms_92 (by decide) ?_
                    refine lv_istore (lv' := [(5, .int (x73_l5 - 1)), (6, .int x73_l6), (0, .ref (q 0)), (1, .int p0), (2, .int p1), (3, .int p2), (4, .int p3)]) hx hb dX5_synonyms_96 hl (by decide) rfl (fun ls hl => ?_)
                    refine lv_iinc (v := (x73_l6 + 1)) (lv' := [(6, .int (x73_l6 + 1)), (5, .int (x73_l5 - 1)), (0, .ref (q 0)), (1, .int p0), (2, .int p1), (3, .int p2), (4, .int p3)]) hx hb dX5_synonyms_98 hl (k := 1) rfl (by rfl) (by decide) rfl (fun ls hl => ?_)
                    refine lv_goto (tgt := 73) hx hb dX5_synonyms_101 (by decide) ?_
                    obtain rfl := Option.some.inj hs73
                    exact ih73 _ _ _ _ _ hw73 hP hD hS (lv_sub hl [0, 1, 2, 3, 4, 5, 6] rfl)
            exact lp73 5000 _ _ _ _ _ hr10 hP hD hS (lv_sub hl [0, 1, 2, 3, 4, 5, 6] rfl)
          · rw [if_pos c9] at hf
            refine lv_iload_n hx hb dX5_synonyms_63 rfl (lv_at hl 3 rfl) ?_
            refine lv_iload_n hx hb dX5_synonyms_64 rfl (lv_at hl 2 rfl) ?_
            refine lv_isub hx hb dX5_synonyms_65 ?_
            obtain rfl := Option.some.inj hf
            exact hret rfl rfl rfl hP hD hS dX5_synonyms_66
        · rw [if_pos c8] at hf
          refine lv_bipush (v := (-2)) hx hb dX5_synonyms_54 (by decide) ?_
          obtain rfl := Option.some.inj hf
          exact hret rfl rfl rfl hP hD hS dX5_synonyms_56
def f_X5_actBy (p0 : Int32) : Int32 := if 2 ≤ p0 then (if 4 ≤ p0 then (if p0 = 4 then (1) else (3)) else (2)) else (0)
theorem yd_X5_actBy : yX5_actBy.cls ≠ "java/lang/invoke/MethodHandle" ∧ yX5_actBy.cls ≠ "java/lang/invoke/VarHandle" ∧ (parseMethodDescriptor yX5_actBy.desc).map (fun d => d.parameters.length) = some 1 := by decide +kernel
abbrev rmX5_actBy : Room := { frames := 0, cells := 0, slots := 0, locals := 0 }
set_option maxHeartbeats 4000000 in
set_option maxRecDepth 100000 in
theorem k_X5_actBy (l : Launch) (D : va_G) (K : Nat → ClassId) (p0 : Int32) (out : Int32) (hf : f_X5_actBy p0 = out) : kI l D K .int yX5_actBy wsX5_actBy rmX5_actBy [.int p0] ([] : va_W) out ([] : va_W) := by
  refine kI.of (cc := cX5_actBy) (maxL := 1) (by decide) rfl (Nat.le_of_ble_eq_true rfl) ?_
  intro p e s m args below meth c A H0 Q ls hx hb hml hown hts hK hN hA hP hD hS hl hret
  have hown : s.vm.findClass RX5 = some m.cls := hown
  have hl : lv_has ls 1 [(0, .int p0)] := hl
  generalize hH : H0 = H at hP ⊢
  have hS : va_S A H0 H [] := by rw [← hH]; exact hS
  clear hH
  unfold f_X5_actBy at hf
  refine lv_iload_n hx hb dX5_actBy_0 rfl (lv_at hl 0 rfl) ?_
  refine lv_iconst (v := 2) hx hb dX5_actBy_1 (by decide) ?_
  refine lv_icmp_ge (tgt := 9) hx hb dX5_actBy_2 (by decide) (fun c1 => ?_) (fun c1 => ?_)
  · rw [if_pos c1] at hf
    refine lv_iload_n hx hb dX5_actBy_9 rfl (lv_at hl 0 rfl) ?_
    refine lv_iconst (v := 4) hx hb dX5_actBy_10 (by decide) ?_
    refine lv_icmp_ge (tgt := 18) hx hb dX5_actBy_11 (by decide) (fun c2 => ?_) (fun c2 => ?_)
    · rw [if_pos c2] at hf
      refine lv_iload_n hx hb dX5_actBy_18 rfl (lv_at hl 0 rfl) ?_
      refine lv_iconst (v := 4) hx hb dX5_actBy_19 (by decide) ?_
      refine lv_icmp_ne (tgt := 27) hx hb dX5_actBy_20 (by decide) (fun c3 => ?_) (fun c3 => ?_)
      · rw [if_neg c3] at hf
        refine lv_iconst (v := 3) hx hb dX5_actBy_27 (by decide) ?_
        subst hf
        exact hret rfl rfl rfl hP hD hS dX5_actBy_28
      · rw [if_pos c3] at hf
        refine lv_iconst (v := 1) hx hb dX5_actBy_23 (by decide) ?_
        refine lv_goto (tgt := 28) hx hb dX5_actBy_24 (by decide) ?_
        subst hf
        exact hret rfl rfl rfl hP hD hS dX5_actBy_28
    · rw [if_neg c2] at hf
      refine lv_iconst (v := 2) hx hb dX5_actBy_14 (by decide) ?_
      refine lv_goto (tgt := 28) hx hb dX5_actBy_15 (by decide) ?_
      subst hf
      exact hret rfl rfl rfl hP hD hS dX5_actBy_28
  · rw [if_neg c1] at hf
    refine lv_iconst (v := 0) hx hb dX5_actBy_5 (by decide) ?_
    refine lv_goto (tgt := 28) hx hb dX5_actBy_6 (by decide) ?_
    subst hf
    exact hret rfl rfl rfl hP hD hS dX5_actBy_28
def s_X5_year_154 (p2 : Int32) (e53_has : Nat → Int32) (e53_purse : Nat → Int32) (x : Int32 × Int32) : Option ((Int32 × Int32) ⊕ (Int32 × Int32)) := if 4 ≤ x.2 then (some (.inr (x.1, x.2))) else (if p2 = 0 then (chk x.2 4 (some (.inl ((x.1 + (e53_purse (x.2).toNatClampNeg)), (x.2 + 1))))) else (if p2 = 2 then (chk x.2 4 (ob (f_X5_ones (e53_has (x.2).toNatClampNeg)) (fun o19 => some (.inl ((x.1 + o19), (x.2 + 1)))))) else (some (.inl ((x.1 + 0), (x.2 + 1))))))
def s_X5_year_53 (vkind : Nat → Int32) (p1 : Int32) (x : Int32 × Int32 × Int32 × (Nat → Int32) × Int32 × Int32 × Int32 × Int32 × (Nat → Int32) × Int32 × (Nat → Int32)) : Option ((Int32 × Int32 × Int32 × (Nat → Int32) × Int32 × Int32 × Int32 × Int32 × (Nat → Int32) × Int32 × (Nat → Int32)) ⊕ (Int32 × Int32 × Int32 × (Nat → Int32) × Int32 × Int32 × Int32 × Int32 × (Nat → Int32) × Int32 × (Nat → Int32))) := if p1 ≤ x.2.1 then (some (.inr (x.1, x.2.1, x.2.2.1, x.2.2.2.1, x.2.2.2.2.1, x.2.2.2.2.2.1, x.2.2.2.2.2.2.1, x.2.2.2.2.2.2.2.1, x.2.2.2.2.2.2.2.2.1, x.2.2.2.2.2.2.2.2.2.1, x.2.2.2.2.2.2.2.2.2.2))) else (bd (f_X5_actBy (((((75 * x.1.toInt64) + 74) - ((75 * x.1.toInt64) + 74) / 65537 * 65537).toInt32 / 48) - ((((75 * x.1.toInt64) + 74) - ((75 * x.1.toInt64) + 74) / 65537 * 65537).toInt32 / 48) / 6 * 6)) (fun o22 => ob (f_X5_whyNot x.2.2.2.2.2.2.2.2.2.2 x.2.2.2.2.2.2.2.2.1 x.2.2.2.1 x.2.2.2.2.2.2.2.1 o22 ((((75 * x.1.toInt64) + 74) - ((75 * x.1.toInt64) + 74) / 65537 * 65537).toInt32 - (((75 * x.1.toInt64) + 74) - ((75 * x.1.toInt64) + 74) / 65537 * 65537).toInt32 / 4 * 4) (((((75 * x.1.toInt64) + 74) - ((75 * x.1.toInt64) + 74) / 65537 * 65537).toInt32 / 4) - ((((75 * x.1.toInt64) + 74) - ((75 * x.1.toInt64) + 74) / 65537 * 65537).toInt32 / 4) / 12 * 12) (((((75 * x.1.toInt64) + 74) - ((75 * x.1.toInt64) + 74) / 65537 * 65537).toInt32 / 288) - ((((75 * x.1.toInt64) + 74) - ((75 * x.1.toInt64) + 74) / 65537 * 65537).toInt32 / 288) / 4 * 4)) (fun o23 => if o23 = 0 then (ob (f_X5_happen x.2.2.2.2.2.2.2.2.2.2 vkind x.2.2.2.2.2.2.2.2.1 x.2.2.2.1 x.2.2.2.2.2.2.2.1 x.2.2.2.2.2.2.1 x.2.2.1 x.2.2.2.2.2.2.2.2.2.1 x.2.2.2.2.1 x.2.2.2.2.2.1 o22 ((((75 * x.1.toInt64) + 74) - ((75 * x.1.toInt64) + 74) / 65537 * 65537).toInt32 - (((75 * x.1.toInt64) + 74) - ((75 * x.1.toInt64) + 74) / 65537 * 65537).toInt32 / 4 * 4) (((((75 * x.1.toInt64) + 74) - ((75 * x.1.toInt64) + 74) / 65537 * 65537).toInt32 / 4) - ((((75 * x.1.toInt64) + 74) - ((75 * x.1.toInt64) + 74) / 65537 * 65537).toInt32 / 4) / 12 * 12) (((((75 * x.1.toInt64) + 74) - ((75 * x.1.toInt64) + 74) / 65537 * 65537).toInt32 / 288) - ((((75 * x.1.toInt64) + 74) - ((75 * x.1.toInt64) + 74) / 65537 * 65537).toInt32 / 288) / 4 * 4)) (fun o25 => some (.inl ((((75 * x.1.toInt64) + 74) - ((75 * x.1.toInt64) + 74) / 65537 * 65537).toInt32, (x.2.1 + 1), o25.2.2.2.2.2.1, o25.2.2.1, o25.2.2.2.2.2.2.2.1, o25.2.2.2.2.2.2.2.2, o25.2.2.2.2.1, o25.2.2.2.1, o25.2.1, o25.2.2.2.2.2.2.1, o25.1)))) else (some (.inl ((((75 * x.1.toInt64) + 74) - ((75 * x.1.toInt64) + 74) / 65537 * 65537).toInt32, (x.2.1 + 1), x.2.2.1, x.2.2.2.1, x.2.2.2.2.1, x.2.2.2.2.2.1, x.2.2.2.2.2.2.1, x.2.2.2.2.2.2.2.1, x.2.2.2.2.2.2.2.2.1, x.2.2.2.2.2.2.2.2.2.1, x.2.2.2.2.2.2.2.2.2.2))))))
def f_X5_year (vweight : Nat → Int32) (vkind : Nat → Int32) (vpurse : Nat → Int32) (vhas : Nat → Int32) (vplace : Int32) (vopenMany : Int32) (vended : Int32) (vspoken : Int32) (vheaviest : Int32) (vheaviestWeight : Int32) (vhad : Nat → Int32) (p0 : Int32) (p1 : Int32) (p2 : Int32) : Option (Int32 × (Nat → Int32) × (Nat → Int32) × (Nat → Int32) × Int32 × Int32 × Int32 × Int32 × Int32 × Int32 × (Nat → Int32)) := bd (f_X5_in p0.toInt64 (0) (9999)) (fun o1 => if o1 = 0 then (some ((-2), vweight, vpurse, vhas, vplace, vopenMany, vended, vspoken, vheaviest, vheaviestWeight, vhad)) else (bd (f_X5_in p1.toInt64 (1) (99)) (fun o3 => if o3 = 0 then (some ((-2), vweight, vpurse, vhas, vplace, vopenMany, vended, vspoken, vheaviest, vheaviestWeight, vhad)) else (bd (f_X5_in p2.toInt64 (0) (2)) (fun o5 => if o5 = 0 then (some ((-2), vweight, vpurse, vhas, vplace, vopenMany, vended, vspoken, vheaviest, vheaviestWeight, vhad)) else (ob (f_X5_keepNow vweight vpurse vhas vhad) (fun o7 => bd (f_X5_beginCount) (fun o8 => ob (wh (s_X5_year_53 vkind p1) 5000 (p0, 0, o8.2.2.1, vhas, o8.2.2.2.2.1, o8.2.2.2.2.2, o8.2.1, o8.1, vpurse, o8.2.2.2.1, vweight)) (fun r9 => ob (wh (s_X5_year_154 p2 r9.2.2.2.1 r9.2.2.2.2.2.2.2.2.1) 5000 (0, 0)) (fun r10 => if p2 = 1 then (ob (f_X5_costOf r9.2.2.2.2.2.2.2.2.2.2 (4095)) (fun o13 => ob (f_X5_back r9.2.2.2.2.2.2.2.2.2.2 r9.2.2.2.2.2.2.2.2.1 r9.2.2.2.1 o7 o13) (fun o14 => some (o14.1, o14.2.1, o14.2.2.1, o14.2.2.2, r9.2.2.2.2.2.2.2.1, r9.2.2.2.2.2.2.1, r9.2.2.1, r9.2.2.2.2.2.2.2.2.2.1, r9.2.2.2.2.1, r9.2.2.2.2.2.1, o7)))) else (ob (f_X5_back r9.2.2.2.2.2.2.2.2.2.2 r9.2.2.2.2.2.2.2.2.1 r9.2.2.2.1 o7 r10.1) (fun o12 => some (o12.1, o12.2.1, o12.2.2.1, o12.2.2.2, r9.2.2.2.2.2.2.2.1, r9.2.2.2.2.2.2.1, r9.2.2.1, r9.2.2.2.2.2.2.2.2.2.1, r9.2.2.2.2.1, r9.2.2.2.2.2.1, o7)))))))))))))
theorem inX5_year_X5 : ∀ w ∈ wsX50, w ∈ wsX5_year := fun w h => List.mem_cons_of_mem _ (List.mem_append_right _ h)
theorem yd_X5_year : yX5_year.cls ≠ "java/lang/invoke/MethodHandle" ∧ yX5_year.cls ≠ "java/lang/invoke/VarHandle" ∧ (parseMethodDescriptor yX5_year.desc).map (fun d => d.parameters.length) = some 3 := by decide +kernel
abbrev rmX5_year : Room := { frames := 3, cells := 0, slots := 0, locals := 66 }
set_option maxHeartbeats 4000000 in
set_option maxRecDepth 100000 in
theorem k_X5_year (l : Launch) (D : va_G) (K : Nat → ClassId) (q : Nat → Nat) (vweight : Nat → Int32) (vkind : Nat → Int32) (vrhymes : Nat → Int32) (vpurse : Nat → Int32) (vhas : Nat → Int32) (vwishes : Nat → Int32) (vwishMany : Int32) (vsightLeft : Nat → Int32) (vsightRight : Nat → Int32) (vsightHow : Nat → Int32) (vsights : Int32) (vpad : Nat → Int32) (vpadMany : Int32) (vact : Nat → Int32) (vwho : Nat → Int32) (vwhich : Nat → Int32) (vwhom : Nat → Int32) (vacts : Int32) (vplace : Int32) (vopenMany : Int32) (vended : Int32) (vspoken : Int32) (vheaviest : Int32) (vheaviestWeight : Int32) (vhad : Nat → Int32) (vbadAct : Int32) (vbadWhy : Int32) (vbrings : Nat → Int64) (vbringsThen : Nat → Int64) (vkept : Nat → Int32) (visKept : Nat → Int32) (vkeptAt : Int32) (visWriting : Int32) (p0 : Int32) (p1 : Int32) (p2 : Int32) (out : Int32 × (Nat → Int32) × (Nat → Int32) × (Nat → Int32) × Int32 × Int32 × Int32 × Int32 × Int32 × Int32 × (Nat → Int32)) (hf : f_X5_year vweight vkind vpurse vhas vplace vopenMany vended vspoken vheaviest vheaviestWeight vhad p0 p1 p2 = some out) : kI l D K .int yX5_year wsX5_year rmX5_year [.ref (q 0), .int p0, .int p1, .int p2] (mdW K q vweight vkind vrhymes vpurse vhas vwishes vwishMany vsightLeft vsightRight vsightHow vsights vpad vpadMany vact vwho vwhich vwhom vacts vplace vopenMany vended vspoken vheaviest vheaviestWeight vhad vbadAct vbadWhy vbrings vbringsThen vkept visKept vkeptAt visWriting) out.1 (mdW K q out.2.1 vkind vrhymes out.2.2.1 out.2.2.2.1 vwishes vwishMany vsightLeft vsightRight vsightHow vsights vpad vpadMany vact vwho vwhich vwhom vacts out.2.2.2.2.1 out.2.2.2.2.2.1 out.2.2.2.2.2.2.1 out.2.2.2.2.2.2.2.1 out.2.2.2.2.2.2.2.2.1 out.2.2.2.2.2.2.2.2.2.1 out.2.2.2.2.2.2.2.2.2.2 vbadAct vbadWhy vbrings vbringsThen vkept visKept vkeptAt visWriting) := by
  refine kI.of (cc := cX5_year) (maxL := 10) (by decide) rfl (Nat.le_of_ble_eq_true rfl) ?_
  intro p e s m args below meth c A H0 Q ls hx hb hml hown hts hK hN hA hP hD hS hl hret
  have hown : s.vm.findClass RX5 = some m.cls := hown
  have hl : lv_has ls 10 [(0, .ref (q 0)), (1, .int p0), (2, .int p1), (3, .int p2)] := hl
  generalize hH : H0 = H at hP ⊢
  have hS : va_S A H0 H [] := by rw [← hH]; exact hS
  clear hH
  unfold f_X5_year at hf
  refine lv_iload_n hx hb dX5_year_0 rfl (lv_at hl 1 rfl) ?_
  refine lv_i2l (v := p0.toInt64) hx hb dX5_year_1 rfl ?_
  refine lv_lconst (v := 0) hx hb dX5_year_2 (by decide) ?_
  refine lv_ldc2 hx hb hown (hts (.constantLong RX5 248 (9999)) (List.mem_of_getElem? (i := 1) rfl)) dX5_year_3 ?_
  obtain ⟨o1, ho1, hf⟩ := bd_el hf
  refine kc0_i (D := D) (va_runS (As := [.long p0.toInt64, .long 0, .long 9999]) (rest := []) ⟨hx, hb, hml, hown, hts⟩ ((k_X5_in l D K p0.toInt64 (0) (9999) o1 ho1) H.size) (va_cwS 3 hts gX5_year_X5_in rfl rfl rfl yd_X5_in ⟨Nat.le_of_ble_eq_true rfl, Nat.le_of_ble_eq_true rfl⟩) (kPreS va_P_nil (va_D_nil (A := fun _ => True)) hK hN) rfl rfl hl.1 rfl (lv_room (Nat.le_of_ble_eq_true rfl)) dX5_year_6 ⟨Nat.le_of_ble_eq_true rfl, Nat.le_of_ble_eq_true rfl⟩) hP hS hA (fun hzo1 H locs hP hS => ?_)
  refine lv_if_eq (tgt := 36) hx hb dX5_year_9 (by decide) (fun c2 => ?_) (fun c2 => ?_)
  · rw [if_pos c2] at hf
    refine lv_bipush (v := (-2)) hx hb dX5_year_36 (by decide) ?_
    obtain rfl := Option.some.inj hf
    exact hret rfl rfl rfl hP hD hS dX5_year_38
  · rw [if_neg c2] at hf
    refine lv_iload_n hx hb dX5_year_12 rfl (lv_at hl 2 rfl) ?_
    refine lv_i2l (v := p1.toInt64) hx hb dX5_year_13 rfl ?_
    refine lv_lconst (v := 1) hx hb dX5_year_14 (by decide) ?_
    refine lv_ldc2 hx hb hown (hts (.constantLong RX5 81 (99)) (List.mem_of_getElem? (i := 2) rfl)) dX5_year_15 ?_
    obtain ⟨o3, ho3, hf⟩ := bd_el hf
    refine kc0_i (D := D) (va_runS (As := [.long p1.toInt64, .long 1, .long 99]) (rest := []) ⟨hx, hb, hml, hown, hts⟩ ((k_X5_in l D K p1.toInt64 (1) (99) o3 ho3) H.size) (va_cwS 3 hts gX5_year_X5_in rfl rfl rfl yd_X5_in ⟨Nat.le_of_ble_eq_true rfl, Nat.le_of_ble_eq_true rfl⟩) (kPreS va_P_nil (va_D_nil (A := fun _ => True)) hK hN) rfl rfl hl.1 rfl (lv_room (Nat.le_of_ble_eq_true rfl)) dX5_year_18 ⟨Nat.le_of_ble_eq_true rfl, Nat.le_of_ble_eq_true rfl⟩) hP hS hA (fun hzo3 H locs hP hS => ?_)
    refine lv_if_eq (tgt := 36) hx hb dX5_year_21 (by decide) (fun c4 => ?_) (fun c4 => ?_)
    · rw [if_pos c4] at hf
      refine lv_bipush (v := (-2)) hx hb dX5_year_36 (by decide) ?_
      obtain rfl := Option.some.inj hf
      exact hret rfl rfl rfl hP hD hS dX5_year_38
    · rw [if_neg c4] at hf
      refine lv_iload_n hx hb dX5_year_24 rfl (lv_at hl 3 rfl) ?_
      refine lv_i2l (v := p2.toInt64) hx hb dX5_year_25 rfl ?_
      refine lv_lconst (v := 0) hx hb dX5_year_26 (by decide) ?_
      refine lv_ldc2 hx hb hown (hts (.constantLong RX5 83 (2)) (List.mem_of_getElem? (i := 3) rfl)) dX5_year_27 ?_
      obtain ⟨o5, ho5, hf⟩ := bd_el hf
      refine kc0_i (D := D) (va_runS (As := [.long p2.toInt64, .long 0, .long 2]) (rest := []) ⟨hx, hb, hml, hown, hts⟩ ((k_X5_in l D K p2.toInt64 (0) (2) o5 ho5) H.size) (va_cwS 3 hts gX5_year_X5_in rfl rfl rfl yd_X5_in ⟨Nat.le_of_ble_eq_true rfl, Nat.le_of_ble_eq_true rfl⟩) (kPreS va_P_nil (va_D_nil (A := fun _ => True)) hK hN) rfl rfl hl.1 rfl (lv_room (Nat.le_of_ble_eq_true rfl)) dX5_year_30 ⟨Nat.le_of_ble_eq_true rfl, Nat.le_of_ble_eq_true rfl⟩) hP hS hA (fun hzo5 H locs hP hS => ?_)
      refine lv_if_ne (tgt := 39) hx hb dX5_year_33 (by decide) (fun c6 => ?_) (fun c6 => ?_)
      · rw [if_neg c6] at hf
        refine lv_aload_n hx hb dX5_year_39 rfl (lv_at hl 0 rfl) ?_
        obtain ⟨o7, ho7, hf⟩ := ob_el hf
        refine kcw_v (D := D) (va_runV (As := []) (rest := []) ⟨hx, hb, hml, hown, hts⟩ ((k_X5_keepNow l D K q vweight vkind vrhymes vpurse vhas vwishes vwishMany vsightLeft vsightRight vsightHow vsights vpad vpadMany vact vwho vwhich vwhom vacts vplace vopenMany vended vspoken vheaviest vheaviestWeight vhad vbadAct vbadWhy vbrings vbringsThen vkept visKept vkeptAt visWriting o7 ho7) H.size) (cwV 0 hts gX5_year_X5_keepNow rfl rfl rfl ⟨rfl, yd_X5_keepNow⟩ ⟨Nat.le_of_ble_eq_true rfl, Nat.le_of_ble_eq_true rfl⟩) (kPreV (ci := 5) (q0 := 0) hP rfl rfl hP hD hK hN) rfl rfl hl.1 rfl (lv_room (Nat.le_of_ble_eq_true rfl)) dX5_year_40 ⟨Nat.le_of_ble_eq_true rfl, Nat.le_of_ble_eq_true rfl⟩) hD hS hA (fun H locs hP hD hS => ?_)
        have hP : va_P D vwCl (mdW K q vweight vkind vrhymes vpurse vhas vwishes vwishMany vsightLeft vsightRight vsightHow vsights vpad vpadMany vact vwho vwhich vwhom vacts vplace vopenMany vended vspoken vheaviest vheaviestWeight o7 vbadAct vbadWhy vbrings vbringsThen vkept visKept vkeptAt visWriting) H := hP
        have hD : va_D A (mdW K q vweight vkind vrhymes vpurse vhas vwishes vwishMany vsightLeft vsightRight vsightHow vsights vpad vpadMany vact vwho vwhich vwhom vacts vplace vopenMany vended vspoken vheaviest vheaviestWeight o7 vbadAct vbadWhy vbrings vbringsThen vkept visKept vkeptAt visWriting) := hD
        refine lv_aload_n hx hb dX5_year_43 rfl (lv_at hl 0 rfl) ?_
        obtain ⟨o8, ho8, hf⟩ := bd_el hf
        refine kcw_v (D := D) (va_runV (As := []) (rest := []) ⟨hx, hb, hml, hown, hts⟩ ((k_X5_beginCount l D K q vweight vkind vrhymes vpurse vhas vwishes vwishMany vsightLeft vsightRight vsightHow vsights vpad vpadMany vact vwho vwhich vwhom vacts vplace vopenMany vended vspoken vheaviest vheaviestWeight o7 vbadAct vbadWhy vbrings vbringsThen vkept visKept vkeptAt visWriting o8 ho8) H.size) (cwV 0 hts gX5_year_X5_beginCount rfl rfl rfl ⟨rfl, yd_X5_beginCount⟩ ⟨Nat.le_of_ble_eq_true rfl, Nat.le_of_ble_eq_true rfl⟩) (kPreV (ci := 5) (q0 := 0) hP rfl rfl hP hD hK hN) rfl rfl hl.1 rfl (lv_room (Nat.le_of_ble_eq_true rfl)) dX5_year_44 ⟨Nat.le_of_ble_eq_true rfl, Nat.le_of_ble_eq_true rfl⟩) hD hS hA (fun H locs hP hD hS => ?_)
        have hP : va_P D vwCl (mdW K q vweight vkind vrhymes vpurse vhas vwishes vwishMany vsightLeft vsightRight vsightHow vsights vpad vpadMany vact vwho vwhich vwhom vacts o8.1 o8.2.1 o8.2.2.1 o8.2.2.2.1 o8.2.2.2.2.1 o8.2.2.2.2.2 o7 vbadAct vbadWhy vbrings vbringsThen vkept visKept vkeptAt visWriting) H := hP
        have hD : va_D A (mdW K q vweight vkind vrhymes vpurse vhas vwishes vwishMany vsightLeft vsightRight vsightHow vsights vpad vpadMany vact vwho vwhich vwhom vacts o8.1 o8.2.1 o8.2.2.1 o8.2.2.2.1 o8.2.2.2.2.1 o8.2.2.2.2.2 o7 vbadAct vbadWhy vbrings vbringsThen vkept visKept vkeptAt visWriting) := hD
        refine lv_iload_n hx hb dX5_year_47 rfl (lv_at hl 1 rfl) ?_
        refine lv_istore (lv' := [(4, .int p0), (0, .ref (q 0)), (1, .int p0), (2, .int p1), (3, .int p2)]) hx hb dX5_year_48 hl (by decide) rfl (fun ls hl => ?_)
        refine lv_iconst (v := 0) hx hb dX5_year_50 (by decide) ?_
        refine lv_istore (lv' := [(5, .int 0), (4, .int p0), (0, .ref (q 0)), (1, .int p0), (2, .int p1), (3, .int p2)]) hx hb dX5_year_51 hl (by decide) rfl (fun ls hl => ?_)
        obtain ⟨r9, hr9, hf⟩ := ob_el hf
        have post53 : ∀ (e53_l4 : Int32) (e53_l5 : Int32) (e53_ended : Int32) (e53_has : Nat → Int32) (e53_heaviest : Int32) (e53_heaviestWeight : Int32) (e53_openMany : Int32) (e53_place : Int32) (e53_purse : Nat → Int32) (e53_spoken : Int32) (e53_weight : Nat → Int32) (H : Heap) (locs : List Loc) (ls : Array Slot), (ob (wh (s_X5_year_154 p2 e53_has e53_purse) 5000 (0, 0)) (fun r10 => if p2 = 1 then (ob (f_X5_costOf e53_weight (4095)) (fun o13 => ob (f_X5_back e53_weight e53_purse e53_has o7 o13) (fun o14 => some (o14.1, o14.2.1, o14.2.2.1, o14.2.2.2, e53_place, e53_openMany, e53_ended, e53_spoken, e53_heaviest, e53_heaviestWeight, o7)))) else (ob (f_X5_back e53_weight e53_purse e53_has o7 r10.1) (fun o12 => some (o12.1, o12.2.1, o12.2.2.1, o12.2.2.2, e53_place, e53_openMany, e53_ended, e53_spoken, e53_heaviest, e53_heaviestWeight, o7))))) = some out → va_P D vwCl (mdW K q e53_weight vkind vrhymes e53_purse e53_has vwishes vwishMany vsightLeft vsightRight vsightHow vsights vpad vpadMany vact vwho vwhich vwhom vacts e53_place e53_openMany e53_ended e53_spoken e53_heaviest e53_heaviestWeight o7 vbadAct vbadWhy vbrings vbringsThen vkept visKept vkeptAt visWriting) H → va_D A (mdW K q e53_weight vkind vrhymes e53_purse e53_has vwishes vwishMany vsightLeft vsightRight vsightHow vsights vpad vpadMany vact vwho vwhich vwhom vacts e53_place e53_openMany e53_ended e53_spoken e53_heaviest e53_heaviestWeight o7 vbadAct vbadWhy vbrings vbringsThen vkept visKept vkeptAt visWriting) → va_S A H0 H locs → lv_has ls 10 [(5, .int e53_l5), (4, .int e53_l4), (0, .ref (q 0)), (1, .int p0), (2, .int p1), (3, .int p2)] → W p l e rmX5_year s m args below meth c H locs 0 0 Q (F0 m 148 ls []) := by
          intro e53_l4 e53_l5 e53_ended e53_has e53_heaviest e53_heaviestWeight e53_openMany e53_place e53_purse e53_spoken e53_weight H locs ls hf hP hD hS hl
          refine lv_iconst (v := 0) hx hb dX5_year_148 (by decide) ?_
          refine lv_istore (lv' := [(5, .int 0), (4, .int e53_l4), (0, .ref (q 0)), (1, .int p0), (2, .int p1), (3, .int p2)]) hx hb dX5_year_149 hl (by decide) rfl (fun ls hl => ?_)
          refine lv_iconst (v := 0) hx hb dX5_year_151 (by decide) ?_
          refine lv_istore (lv' := [(6, .int 0), (5, .int 0), (4, .int e53_l4), (0, .ref (q 0)), (1, .int p0), (2, .int p1), (3, .int p2)]) hx hb dX5_year_152 hl (by decide) rfl (fun ls hl => ?_)
          obtain ⟨r10, hr10, hf⟩ := ob_el hf
          have post154 : ∀ (e154_l5 : Int32) (e154_l6 : Int32) (H : Heap) (locs : List Loc) (ls : Array Slot), (if p2 = 1 then (ob (f_X5_costOf e53_weight (4095)) (fun o13 => ob (f_X5_back e53_weight e53_purse e53_has o7 o13) (fun o14 => some (o14.1, o14.2.1, o14.2.2.1, o14.2.2.2, e53_place, e53_openMany, e53_ended, e53_spoken, e53_heaviest, e53_heaviestWeight, o7)))) else (ob (f_X5_back e53_weight e53_purse e53_has o7 e154_l5) (fun o12 => some (o12.1, o12.2.1, o12.2.2.1, o12.2.2.2, e53_place, e53_openMany, e53_ended, e53_spoken, e53_heaviest, e53_heaviestWeight, o7)))) = some out → va_P D vwCl (mdW K q e53_weight vkind vrhymes e53_purse e53_has vwishes vwishMany vsightLeft vsightRight vsightHow vsights vpad vpadMany vact vwho vwhich vwhom vacts e53_place e53_openMany e53_ended e53_spoken e53_heaviest e53_heaviestWeight o7 vbadAct vbadWhy vbrings vbringsThen vkept visKept vkeptAt visWriting) H → va_D A (mdW K q e53_weight vkind vrhymes e53_purse e53_has vwishes vwishMany vsightLeft vsightRight vsightHow vsights vpad vpadMany vact vwho vwhich vwhom vacts e53_place e53_openMany e53_ended e53_spoken e53_heaviest e53_heaviestWeight o7 vbadAct vbadWhy vbrings vbringsThen vkept visKept vkeptAt visWriting) → va_S A H0 H locs → lv_has ls 10 [(6, .int e154_l6), (5, .int e154_l5), (4, .int e53_l4), (0, .ref (q 0)), (1, .int p0), (2, .int p1), (3, .int p2)] → W p l e rmX5_year s m args below meth c H locs 0 0 Q (F0 m 204 ls []) := by
            intro e154_l5 e154_l6 H locs ls hf hP hD hS hl
            refine lv_iload_n hx hb dX5_year_204 rfl (lv_at hl 6 rfl) ?_
            refine lv_iconst (v := 1) hx hb dX5_year_205 (by decide) ?_
            refine lv_icmp_ne (tgt := 219) hx hb dX5_year_206 (by decide) (fun c11 => ?_) (fun c11 => ?_)
            · rw [if_neg c11] at hf
              refine lv_iload hx hb dX5_year_219 (lv_at hl 1 rfl) ?_
              refine lv_istore (lv' := [(6, .int e154_l5), (5, .int e154_l5), (4, .int e53_l4), (0, .ref (q 0)), (1, .int p0), (2, .int p1), (3, .int p2)]) hx hb dX5_year_221 hl (by decide) rfl (fun ls hl => ?_)
              refine lv_aload_n hx hb dX5_year_223 rfl (lv_at hl 3 rfl) ?_
              refine lv_iload hx hb dX5_year_224 (lv_at hl 0 rfl) ?_
              obtain ⟨o12, ho12, hf⟩ := ob_el hf
              refine kcw_i (D := D) (va_runV (As := [.int e154_l5]) (rest := []) ⟨hx, hb, hml, hown, hts⟩ ((k_X5_back l D K q e53_weight vkind vrhymes e53_purse e53_has vwishes vwishMany vsightLeft vsightRight vsightHow vsights vpad vpadMany vact vwho vwhich vwhom vacts e53_place e53_openMany e53_ended e53_spoken e53_heaviest e53_heaviestWeight o7 vbadAct vbadWhy vbrings vbringsThen vkept visKept vkeptAt visWriting e154_l5 o12 ho12) H.size) (cwV 1 hts gX5_year_X5_back rfl rfl rfl ⟨rfl, yd_X5_back⟩ ⟨Nat.le_of_ble_eq_true rfl, Nat.le_of_ble_eq_true rfl⟩) (kPreV (ci := 5) (q0 := 0) hP rfl rfl hP hD hK hN) rfl rfl hl.1 rfl (lv_room (Nat.le_of_ble_eq_true rfl)) dX5_year_226 ⟨Nat.le_of_ble_eq_true rfl, Nat.le_of_ble_eq_true rfl⟩) hD hS hA (fun hzo12 H locs hP hD hS => ?_)
              have hP : va_P D vwCl (mdW K q o12.2.1 vkind vrhymes o12.2.2.1 o12.2.2.2 vwishes vwishMany vsightLeft vsightRight vsightHow vsights vpad vpadMany vact vwho vwhich vwhom vacts e53_place e53_openMany e53_ended e53_spoken e53_heaviest e53_heaviestWeight o7 vbadAct vbadWhy vbrings vbringsThen vkept visKept vkeptAt visWriting) H := hP
              have hD : va_D A (mdW K q o12.2.1 vkind vrhymes o12.2.2.1 o12.2.2.2 vwishes vwishMany vsightLeft vsightRight vsightHow vsights vpad vpadMany vact vwho vwhich vwhom vacts e53_place e53_openMany e53_ended e53_spoken e53_heaviest e53_heaviestWeight o7 vbadAct vbadWhy vbrings vbringsThen vkept visKept vkeptAt visWriting) := hD
              obtain rfl := Option.some.inj hf
              exact hret rfl rfl rfl hP hD hS dX5_year_229
            · rw [if_pos c11] at hf
              refine lv_aload_n hx hb dX5_year_209 rfl (lv_at hl 3 rfl) ?_
              refine lv_sipush (v := 4095) hx hb dX5_year_210 (by decide) ?_
              obtain ⟨o13, ho13, hf⟩ := ob_el hf
              refine kcw_i (D := D) (va_runV (As := [.int 4095]) (rest := []) ⟨hx, hb, hml, hown, hts⟩ ((k_X5_costOf l D K q e53_weight vkind vrhymes e53_purse e53_has vwishes vwishMany vsightLeft vsightRight vsightHow vsights vpad vpadMany vact vwho vwhich vwhom vacts e53_place e53_openMany e53_ended e53_spoken e53_heaviest e53_heaviestWeight o7 vbadAct vbadWhy vbrings vbringsThen vkept visKept vkeptAt visWriting (4095) o13 ho13) H.size) (cwV 1 hts gX5_year_X5_costOf rfl rfl rfl ⟨rfl, yd_X5_costOf⟩ ⟨Nat.le_of_ble_eq_true rfl, Nat.le_of_ble_eq_true rfl⟩) (kPreV (ci := 5) (q0 := 0) hP rfl rfl hP hD hK hN) rfl rfl hl.1 rfl (lv_room (Nat.le_of_ble_eq_true rfl)) dX5_year_213 ⟨Nat.le_of_ble_eq_true rfl, Nat.le_of_ble_eq_true rfl⟩) hD hS hA (fun hzo13 H locs hP hD hS => ?_)
              have hP : va_P D vwCl (mdW K q e53_weight vkind vrhymes e53_purse e53_has vwishes vwishMany vsightLeft vsightRight vsightHow vsights vpad vpadMany vact vwho vwhich vwhom vacts e53_place e53_openMany e53_ended e53_spoken e53_heaviest e53_heaviestWeight o7 vbadAct vbadWhy vbrings vbringsThen vkept visKept vkeptAt visWriting) H := hP
              have hD : va_D A (mdW K q e53_weight vkind vrhymes e53_purse e53_has vwishes vwishMany vsightLeft vsightRight vsightHow vsights vpad vpadMany vact vwho vwhich vwhom vacts e53_place e53_openMany e53_ended e53_spoken e53_heaviest e53_heaviestWeight o7 vbadAct vbadWhy vbrings vbringsThen vkept visKept vkeptAt visWriting) := hD
              refine lv_goto (tgt := 221) hx hb dX5_year_216 (by decide) ?_
              refine lv_istore (lv' := [(6, .int o13), (5, .int e154_l5), (4, .int e53_l4), (0, .ref (q 0)), (1, .int p0), (2, .int p1), (3, .int p2)]) hx hb dX5_year_221 hl (by decide) rfl (fun ls hl => ?_)
              refine lv_aload_n hx hb dX5_year_223 rfl (lv_at hl 3 rfl) ?_
              refine lv_iload hx hb dX5_year_224 (lv_at hl 0 rfl) ?_
              obtain ⟨o14, ho14, hf⟩ := ob_el hf
              refine kcw_i (D := D) (va_runV (As := [.int o13]) (rest := []) ⟨hx, hb, hml, hown, hts⟩ ((k_X5_back l D K q e53_weight vkind vrhymes e53_purse e53_has vwishes vwishMany vsightLeft vsightRight vsightHow vsights vpad vpadMany vact vwho vwhich vwhom vacts e53_place e53_openMany e53_ended e53_spoken e53_heaviest e53_heaviestWeight o7 vbadAct vbadWhy vbrings vbringsThen vkept visKept vkeptAt visWriting o13 o14 ho14) H.size) (cwV 1 hts gX5_year_X5_back rfl rfl rfl ⟨rfl, yd_X5_back⟩ ⟨Nat.le_of_ble_eq_true rfl, Nat.le_of_ble_eq_true rfl⟩) (kPreV (ci := 5) (q0 := 0) hP rfl rfl hP hD hK hN) rfl rfl hl.1 rfl (lv_room (Nat.le_of_ble_eq_true rfl)) dX5_year_226 ⟨Nat.le_of_ble_eq_true rfl, Nat.le_of_ble_eq_true rfl⟩) hD hS hA (fun hzo14 H locs hP hD hS => ?_)
              have hP : va_P D vwCl (mdW K q o14.2.1 vkind vrhymes o14.2.2.1 o14.2.2.2 vwishes vwishMany vsightLeft vsightRight vsightHow vsights vpad vpadMany vact vwho vwhich vwhom vacts e53_place e53_openMany e53_ended e53_spoken e53_heaviest e53_heaviestWeight o7 vbadAct vbadWhy vbrings vbringsThen vkept visKept vkeptAt visWriting) H := hP
              have hD : va_D A (mdW K q o14.2.1 vkind vrhymes o14.2.2.1 o14.2.2.2 vwishes vwishMany vsightLeft vsightRight vsightHow vsights vpad vpadMany vact vwho vwhich vwhom vacts e53_place e53_openMany e53_ended e53_spoken e53_heaviest e53_heaviestWeight o7 vbadAct vbadWhy vbrings vbringsThen vkept visKept vkeptAt visWriting) := hD
              obtain rfl := Option.some.inj hf
              exact hret rfl rfl rfl hP hD hS dX5_year_229
          have lp154 : ∀ (fu : Nat) (x154_l5 : Int32) (x154_l6 : Int32) (H : Heap) (locs : List Loc) (ls : Array Slot), wh (s_X5_year_154 p2 e53_has e53_purse) fu (x154_l5, x154_l6) = some r10 → va_P D vwCl (mdW K q e53_weight vkind vrhymes e53_purse e53_has vwishes vwishMany vsightLeft vsightRight vsightHow vsights vpad vpadMany vact vwho vwhich vwhom vacts e53_place e53_openMany e53_ended e53_spoken e53_heaviest e53_heaviestWeight o7 vbadAct vbadWhy vbrings vbringsThen vkept visKept vkeptAt visWriting) H → va_D A (mdW K q e53_weight vkind vrhymes e53_purse e53_has vwishes vwishMany vsightLeft vsightRight vsightHow vsights vpad vpadMany vact vwho vwhich vwhom vacts e53_place e53_openMany e53_ended e53_spoken e53_heaviest e53_heaviestWeight o7 vbadAct vbadWhy vbrings vbringsThen vkept visKept vkeptAt visWriting) → va_S A H0 H locs → lv_has ls 10 [(6, .int x154_l6), (5, .int x154_l5), (4, .int e53_l4), (0, .ref (q 0)), (1, .int p0), (2, .int p1), (3, .int p2)] → W p l e rmX5_year s m args below meth c H locs 0 0 Q (F0 m 154 ls []) := by
            intro fu
            induction fu with
            | zero => intro x154_l5 x154_l6 H locs ls hw154; cases hw154
            | succ fu ih154 =>
              intro x154_l5 x154_l6 H locs ls hw154 hP hD hS hl
              obtain ⟨o154_, hs154, hw154⟩ := wh_el hw154
              unfold s_X5_year_154 at hs154
              dsimp only at hs154
              refine lv_iload hx hb dX5_year_154 (lv_at hl 0 rfl) ?_
              refine lv_iconst (v := 4) hx hb dX5_year_156 (by decide) ?_
              refine lv_icmp_ge (tgt := 204) hx hb dX5_year_157 (by decide) (fun c15 => ?_) (fun c15 => ?_)
              · rw [if_pos c15] at hs154
                obtain rfl := Option.some.inj hs154
                have e9 := Option.some.inj hw154
                rw [← e9] at hf
                exact post154 _ _ _ _ _ hf hP hD hS (lv_sub hl [0, 1, 2, 3, 4, 5, 6] rfl)
              · rw [if_neg c15] at hs154
                refine lv_iload hx hb dX5_year_160 (lv_at hl 1 rfl) ?_
                refine lv_iload_n hx hb dX5_year_162 rfl (lv_at hl 6 rfl) ?_
                refine lv_if_ne (tgt := 176) hx hb dX5_year_163 (by decide) (fun c16 => ?_) (fun c16 => ?_)
                · rw [if_neg c16] at hs154
                  refine lv_iload_n hx hb dX5_year_176 rfl (lv_at hl 6 rfl) ?_
                  refine lv_iconst (v := 2) hx hb dX5_year_177 (by decide) ?_
                  refine lv_icmp_ne (tgt := 194) hx hb dX5_year_178 (by decide) (fun c17 => ?_) (fun c17 => ?_)
                  · rw [if_neg c17] at hs154
                    refine lv_iconst (v := 0) hx hb dX5_year_194 (by decide) ?_
                    refine lv_iadd hx hb dX5_year_195 ?_
                    refine lv_istore (lv' := [(5, .int (x154_l5 + 0)), (6, .int x154_l6), (4, .int e53_l4), (0, .ref (q 0)), (1, .int p0), (2, .int p1), (3, .int p2)]) hx hb dX5_year_196 hl (by decide) rfl (fun ls hl => ?_)
                    refine lv_iinc (v := (x154_l6 + 1)) (lv' := [(6, .int (x154_l6 + 1)), (5, .int (x154_l5 + 0)), (4, .int e53_l4), (0, .ref (q 0)), (1, .int p0), (2, .int p1), (3, .int p2)]) hx hb dX5_year_198 hl (k := 1) rfl (by rfl) (by decide) rfl (fun ls hl => ?_)
                    refine lv_goto (tgt := 154) hx hb dX5_year_201 (by decide) ?_
                    obtain rfl := Option.some.inj hs154
                    exact ih154 _ _ _ _ _ hw154 hP hD hS (lv_sub hl [0, 1, 2, 3, 4, 5, 6] rfl)
                  · rw [if_pos c17] at hs154
                    refine lv_aload_n hx hb dX5_year_181 rfl (lv_at hl 3 rfl) ?_
                    refine va_get (D := D) (ci := 5) (v := .ref (q 5)) (C := RX5) (T := TX5) (N := 33) hx hb hts inX5_year_X5 hown hK hP 0 rfl rfl 4 (by decide) (hts (.fieldLink RX5 22 "WordScalesModel" "has" "[I") (List.mem_of_getElem? (i := 8) rfl)) (fun _ h9 => h9) rfl dX5_year_182 ?_
                    refine lv_iload hx hb dX5_year_185 (lv_at hl 0 rfl) ?_
                    obtain ⟨v18, hs154⟩ := chk_el hs154
                    refine va_iald (D := D) (f := e53_has) hx hb hK hP 5 0 rfl rfl v18 dX5_year_187 ?_
                    obtain ⟨o19, ho19, hs154⟩ := ob_el hs154
                    refine kc0_i (D := D) (va_runS (As := [.int (e53_has (x154_l6).toNatClampNeg)]) (rest := [.int x154_l5]) ⟨hx, hb, hml, hown, hts⟩ ((k_X5_ones l D K (e53_has (x154_l6).toNatClampNeg) o19 ho19) H.size) (va_cwS 1 hts gX5_year_X5_ones rfl rfl rfl yd_X5_ones ⟨Nat.le_of_ble_eq_true rfl, Nat.le_of_ble_eq_true rfl⟩) (kPreS va_P_nil (va_D_nil (A := fun _ => True)) hK hN) rfl rfl hl.1 rfl (lv_room (Nat.le_of_ble_eq_true rfl)) dX5_year_188 ⟨Nat.le_of_ble_eq_true rfl, Nat.le_of_ble_eq_true rfl⟩) hP hS hA (fun hzo19 H locs hP hS => ?_)
                    refine lv_goto (tgt := 195) hx hb dX5_year_191 (by decide) ?_
                    refine lv_iadd hx hb dX5_year_195 ?_
                    refine lv_istore (lv' := [(5, .int (x154_l5 + o19)), (6, .int x154_l6), (4, .int e53_l4), (0, .ref (q 0)), (1, .int p0), (2, .int p1), (3, .int p2)]) hx hb dX5_year_196 hl (by decide) rfl (fun ls hl => ?_)
                    refine lv_iinc (v := (x154_l6 + 1)) (lv' := [(6, .int (x154_l6 + 1)), (5, .int (x154_l5 + o19)), (4, .int e53_l4), (0, .ref (q 0)), (1, .int p0), (2, .int p1), (3, .int p2)]) hx hb dX5_year_198 hl (k := 1) rfl (by rfl) (by decide) rfl (fun ls hl => ?_)
                    refine lv_goto (tgt := 154) hx hb dX5_year_201 (by decide) ?_
                    obtain rfl := Option.some.inj hs154
                    exact ih154 _ _ _ _ _ hw154 hP hD hS (lv_sub hl [0, 1, 2, 3, 4, 5, 6] rfl)
                · rw [if_pos c16] at hs154
                  refine lv_aload_n hx hb dX5_year_166 rfl (lv_at hl 3 rfl) ?_
                  refine va_get (D := D) (ci := 5) (v := .ref (q 4)) (C := RX5) (T := TX5) (N := 33) hx hb hts inX5_year_X5 hown hK hP 0 rfl rfl 3 (by decide) (hts (.fieldLink RX5 19 "WordScalesModel" "purse" "[I") (List.mem_of_getElem? (i := 7) rfl)) (fun _ h9 => h9) rfl dX5_year_167 ?_
                  refine lv_iload hx hb dX5_year_170 (lv_at hl 0 rfl) ?_
                  obtain ⟨v20, hs154⟩ := chk_el hs154
                  refine va_iald (D := D) (f := e53_purse) hx hb hK hP 4 0 rfl rfl v20 dX5_year_172 ?_
                  refine lv_goto (tgt := 195) hx hb dX5_year_173 (by decide) ?_
                  refine lv_iadd hx hb dX5_year_195 ?_
                  refine lv_istore (lv' := [(5, .int (x154_l5 + (e53_purse (x154_l6).toNatClampNeg))), (6, .int x154_l6), (4, .int e53_l4), (0, .ref (q 0)), (1, .int p0), (2, .int p1), (3, .int p2)]) hx hb dX5_year_196 hl (by decide) rfl (fun ls hl => ?_)
                  refine lv_iinc (v := (x154_l6 + 1)) (lv' := [(6, .int (x154_l6 + 1)), (5, .int (x154_l5 + (e53_purse (x154_l6).toNatClampNeg))), (4, .int e53_l4), (0, .ref (q 0)), (1, .int p0), (2, .int p1), (3, .int p2)]) hx hb dX5_year_198 hl (k := 1) rfl (by rfl) (by decide) rfl (fun ls hl => ?_)
                  refine lv_goto (tgt := 154) hx hb dX5_year_201 (by decide) ?_
                  obtain rfl := Option.some.inj hs154
                  exact ih154 _ _ _ _ _ hw154 hP hD hS (lv_sub hl [0, 1, 2, 3, 4, 5, 6] rfl)
          exact lp154 5000 _ _ _ _ _ hr10 hP hD hS (lv_sub hl [0, 1, 2, 3, 4, 5, 6] rfl)
        have lp53 : ∀ (fu : Nat) (x53_l4 : Int32) (x53_l5 : Int32) (x53_ended : Int32) (x53_has : Nat → Int32) (x53_heaviest : Int32) (x53_heaviestWeight : Int32) (x53_openMany : Int32) (x53_place : Int32) (x53_purse : Nat → Int32) (x53_spoken : Int32) (x53_weight : Nat → Int32) (H : Heap) (locs : List Loc) (ls : Array Slot), wh (s_X5_year_53 vkind p1) fu (x53_l4, x53_l5, x53_ended, x53_has, x53_heaviest, x53_heaviestWeight, x53_openMany, x53_place, x53_purse, x53_spoken, x53_weight) = some r9 → va_P D vwCl (mdW K q x53_weight vkind vrhymes x53_purse x53_has vwishes vwishMany vsightLeft vsightRight vsightHow vsights vpad vpadMany vact vwho vwhich vwhom vacts x53_place x53_openMany x53_ended x53_spoken x53_heaviest x53_heaviestWeight o7 vbadAct vbadWhy vbrings vbringsThen vkept visKept vkeptAt visWriting) H → va_D A (mdW K q x53_weight vkind vrhymes x53_purse x53_has vwishes vwishMany vsightLeft vsightRight vsightHow vsights vpad vpadMany vact vwho vwhich vwhom vacts x53_place x53_openMany x53_ended x53_spoken x53_heaviest x53_heaviestWeight o7 vbadAct vbadWhy vbrings vbringsThen vkept visKept vkeptAt visWriting) → va_S A H0 H locs → lv_has ls 10 [(5, .int x53_l5), (4, .int x53_l4), (0, .ref (q 0)), (1, .int p0), (2, .int p1), (3, .int p2)] → W p l e rmX5_year s m args below meth c H locs 0 0 Q (F0 m 53 ls []) := by
          intro fu
          induction fu with
          | zero => intro x53_l4 x53_l5 x53_ended x53_has x53_heaviest x53_heaviestWeight x53_openMany x53_place x53_purse x53_spoken x53_weight H locs ls hw53; cases hw53
          | succ fu ih53 =>
            intro x53_l4 x53_l5 x53_ended x53_has x53_heaviest x53_heaviestWeight x53_openMany x53_place x53_purse x53_spoken x53_weight H locs ls hw53 hP hD hS hl
            obtain ⟨o53_, hs53, hw53⟩ := wh_el hw53
            unfold s_X5_year_53 at hs53
            dsimp only at hs53
            refine lv_iload hx hb dX5_year_53 (lv_at hl 0 rfl) ?_
            refine lv_iload_n hx hb dX5_year_55 rfl (lv_at hl 4 rfl) ?_
            refine lv_icmp_ge (tgt := 148) hx hb dX5_year_56 (by decide) (fun c21 => ?_) (fun c21 => ?_)
            · rw [if_pos c21] at hs53
              obtain rfl := Option.some.inj hs53
              have e9 := Option.some.inj hw53
              rw [← e9] at hf
              exact post53 _ _ _ _ _ _ _ _ _ _ _ _ _ _ hf hP hD hS (lv_sub hl [0, 1, 2, 3, 4, 5] rfl)
            · rw [if_neg c21] at hs53
              refine lv_ldc2 hx hb hown (hts (.constantLong RX5 250 (75)) (List.mem_of_getElem? (i := 4) rfl)) dX5_year_59 ?_
              refine lv_iload hx hb dX5_year_62 (lv_at hl 1 rfl) ?_
              refine lv_i2l (v := x53_l4.toInt64) hx hb dX5_year_64 rfl ?_
              refine lv_lmul hx hb dX5_year_65 ?_
              refine lv_ldc2 hx hb hown (hts (.constantLong RX5 252 (74)) (List.mem_of_getElem? (i := 5) rfl)) dX5_year_66 ?_
              refine lv_ladd hx hb dX5_year_69 ?_
              refine lv_ldc2 hx hb hown (hts (.constantLong RX5 254 (65537)) (List.mem_of_getElem? (i := 6) rfl)) dX5_year_70 ?_
              refine lv_lrem hx hb dX5_year_73 (by decide) ?_
              refine lv_l2i (v := (((75 * x53_l4.toInt64) + 74) - ((75 * x53_l4.toInt64) + 74) / 65537 * 65537).toInt32) hx hb dX5_year_74 rfl ?_
              refine lv_istore (lv' := [(4, .int ((((75 * x53_l4.toInt64) + 74) - ((75 * x53_l4.toInt64) + 74) / 65537 * 65537).toInt32)), (5, .int x53_l5), (0, .ref (q 0)), (1, .int p0), (2, .int p1), (3, .int p2)]) hx hb dX5_year_75 hl (by decide) rfl (fun ls hl => ?_)
              refine lv_iload hx hb dX5_year_77 (lv_at hl 0 rfl) ?_
              refine lv_bipush (v := 48) hx hb dX5_year_79 (by decide) ?_
              refine lv_idiv hx hb dX5_year_81 (by decide) ?_
              refine lv_bipush (v := 6) hx hb dX5_year_82 (by decide) ?_
              refine lv_irem hx hb dX5_year_84 (by decide) ?_
              obtain ⟨o22, ho22, hs53⟩ := bd_el hs53
              refine kc0_i (D := D) (va_runS (As := [.int (((((75 * x53_l4.toInt64) + 74) - ((75 * x53_l4.toInt64) + 74) / 65537 * 65537).toInt32 / 48) - ((((75 * x53_l4.toInt64) + 74) - ((75 * x53_l4.toInt64) + 74) / 65537 * 65537).toInt32 / 48) / 6 * 6)]) (rest := []) ⟨hx, hb, hml, hown, hts⟩ ((k_X5_actBy l D K (((((75 * x53_l4.toInt64) + 74) - ((75 * x53_l4.toInt64) + 74) / 65537 * 65537).toInt32 / 48) - ((((75 * x53_l4.toInt64) + 74) - ((75 * x53_l4.toInt64) + 74) / 65537 * 65537).toInt32 / 48) / 6 * 6) o22 ho22) H.size) (va_cwS 1 hts gX5_year_X5_actBy rfl rfl rfl yd_X5_actBy ⟨Nat.le_of_ble_eq_true rfl, Nat.le_of_ble_eq_true rfl⟩) (kPreS va_P_nil (va_D_nil (A := fun _ => True)) hK hN) rfl rfl hl.1 rfl (lv_room (Nat.le_of_ble_eq_true rfl)) dX5_year_85 ⟨Nat.le_of_ble_eq_true rfl, Nat.le_of_ble_eq_true rfl⟩) hP hS hA (fun hzo22 H locs hP hS => ?_)
              refine lv_istore (lv' := [(6, .int o22), (4, .int ((((75 * x53_l4.toInt64) + 74) - ((75 * x53_l4.toInt64) + 74) / 65537 * 65537).toInt32)), (5, .int x53_l5), (0, .ref (q 0)), (1, .int p0), (2, .int p1), (3, .int p2)]) hx hb dX5_year_88 hl (by decide) rfl (fun ls hl => ?_)
              refine lv_iload hx hb dX5_year_90 (lv_at hl 1 rfl) ?_
              refine lv_iconst (v := 4) hx hb dX5_year_92 (by decide) ?_
              refine lv_irem hx hb dX5_year_93 (by decide) ?_
              refine lv_istore (lv' := [(7, .int ((((75 * x53_l4.toInt64) + 74) - ((75 * x53_l4.toInt64) + 74) / 65537 * 65537).toInt32 - (((75 * x53_l4.toInt64) + 74) - ((75 * x53_l4.toInt64) + 74) / 65537 * 65537).toInt32 / 4 * 4)), (6, .int o22), (4, .int ((((75 * x53_l4.toInt64) + 74) - ((75 * x53_l4.toInt64) + 74) / 65537 * 65537).toInt32)), (5, .int x53_l5), (0, .ref (q 0)), (1, .int p0), (2, .int p1), (3, .int p2)]) hx hb dX5_year_94 hl (by decide) rfl (fun ls hl => ?_)
              refine lv_iload hx hb dX5_year_96 (lv_at hl 2 rfl) ?_
              refine lv_iconst (v := 4) hx hb dX5_year_98 (by decide) ?_
              refine lv_idiv hx hb dX5_year_99 (by decide) ?_
              refine lv_bipush (v := 12) hx hb dX5_year_100 (by decide) ?_
              refine lv_irem hx hb dX5_year_102 (by decide) ?_
              refine lv_istore (lv' := [(8, .int (((((75 * x53_l4.toInt64) + 74) - ((75 * x53_l4.toInt64) + 74) / 65537 * 65537).toInt32 / 4) - ((((75 * x53_l4.toInt64) + 74) - ((75 * x53_l4.toInt64) + 74) / 65537 * 65537).toInt32 / 4) / 12 * 12)), (7, .int ((((75 * x53_l4.toInt64) + 74) - ((75 * x53_l4.toInt64) + 74) / 65537 * 65537).toInt32 - (((75 * x53_l4.toInt64) + 74) - ((75 * x53_l4.toInt64) + 74) / 65537 * 65537).toInt32 / 4 * 4)), (6, .int o22), (4, .int ((((75 * x53_l4.toInt64) + 74) - ((75 * x53_l4.toInt64) + 74) / 65537 * 65537).toInt32)), (5, .int x53_l5), (0, .ref (q 0)), (1, .int p0), (2, .int p1), (3, .int p2)]) hx hb dX5_year_103 hl (by decide) rfl (fun ls hl => ?_)
              refine lv_iload hx hb dX5_year_105 (lv_at hl 3 rfl) ?_
              refine lv_sipush (v := 288) hx hb dX5_year_107 (by decide) ?_
              refine lv_idiv hx hb dX5_year_110 (by decide) ?_
              refine lv_iconst (v := 4) hx hb dX5_year_111 (by decide) ?_
              refine lv_irem hx hb dX5_year_112 (by decide) ?_
              refine lv_istore (lv' := [(9, .int (((((75 * x53_l4.toInt64) + 74) - ((75 * x53_l4.toInt64) + 74) / 65537 * 65537).toInt32 / 288) - ((((75 * x53_l4.toInt64) + 74) - ((75 * x53_l4.toInt64) + 74) / 65537 * 65537).toInt32 / 288) / 4 * 4)), (8, .int (((((75 * x53_l4.toInt64) + 74) - ((75 * x53_l4.toInt64) + 74) / 65537 * 65537).toInt32 / 4) - ((((75 * x53_l4.toInt64) + 74) - ((75 * x53_l4.toInt64) + 74) / 65537 * 65537).toInt32 / 4) / 12 * 12)), (7, .int ((((75 * x53_l4.toInt64) + 74) - ((75 * x53_l4.toInt64) + 74) / 65537 * 65537).toInt32 - (((75 * x53_l4.toInt64) + 74) - ((75 * x53_l4.toInt64) + 74) / 65537 * 65537).toInt32 / 4 * 4)), (6, .int o22), (4, .int ((((75 * x53_l4.toInt64) + 74) - ((75 * x53_l4.toInt64) + 74) / 65537 * 65537).toInt32)), (5, .int x53_l5), (0, .ref (q 0)), (1, .int p0), (2, .int p1), (3, .int p2)]) hx hb dX5_year_113 hl (by decide) rfl (fun ls hl => ?_)
              refine lv_aload_n hx hb dX5_year_115 rfl (lv_at hl 6 rfl) ?_
              refine lv_iload hx hb dX5_year_116 (lv_at hl 3 rfl) ?_
              refine lv_iload hx hb dX5_year_118 (lv_at hl 2 rfl) ?_
              refine lv_iload hx hb dX5_year_120 (lv_at hl 1 rfl) ?_
              refine lv_iload hx hb dX5_year_122 (lv_at hl 0 rfl) ?_
              obtain ⟨o23, ho23, hs53⟩ := ob_el hs53
              refine kcw_i (D := D) (va_runV (As := [.int o22, .int ((((75 * x53_l4.toInt64) + 74) - ((75 * x53_l4.toInt64) + 74) / 65537 * 65537).toInt32 - (((75 * x53_l4.toInt64) + 74) - ((75 * x53_l4.toInt64) + 74) / 65537 * 65537).toInt32 / 4 * 4), .int (((((75 * x53_l4.toInt64) + 74) - ((75 * x53_l4.toInt64) + 74) / 65537 * 65537).toInt32 / 4) - ((((75 * x53_l4.toInt64) + 74) - ((75 * x53_l4.toInt64) + 74) / 65537 * 65537).toInt32 / 4) / 12 * 12), .int (((((75 * x53_l4.toInt64) + 74) - ((75 * x53_l4.toInt64) + 74) / 65537 * 65537).toInt32 / 288) - ((((75 * x53_l4.toInt64) + 74) - ((75 * x53_l4.toInt64) + 74) / 65537 * 65537).toInt32 / 288) / 4 * 4)]) (rest := []) ⟨hx, hb, hml, hown, hts⟩ ((k_X5_whyNot l D K q x53_weight vkind vrhymes x53_purse x53_has vwishes vwishMany vsightLeft vsightRight vsightHow vsights vpad vpadMany vact vwho vwhich vwhom vacts x53_place x53_openMany x53_ended x53_spoken x53_heaviest x53_heaviestWeight o7 vbadAct vbadWhy vbrings vbringsThen vkept visKept vkeptAt visWriting o22 ((((75 * x53_l4.toInt64) + 74) - ((75 * x53_l4.toInt64) + 74) / 65537 * 65537).toInt32 - (((75 * x53_l4.toInt64) + 74) - ((75 * x53_l4.toInt64) + 74) / 65537 * 65537).toInt32 / 4 * 4) (((((75 * x53_l4.toInt64) + 74) - ((75 * x53_l4.toInt64) + 74) / 65537 * 65537).toInt32 / 4) - ((((75 * x53_l4.toInt64) + 74) - ((75 * x53_l4.toInt64) + 74) / 65537 * 65537).toInt32 / 4) / 12 * 12) (((((75 * x53_l4.toInt64) + 74) - ((75 * x53_l4.toInt64) + 74) / 65537 * 65537).toInt32 / 288) - ((((75 * x53_l4.toInt64) + 74) - ((75 * x53_l4.toInt64) + 74) / 65537 * 65537).toInt32 / 288) / 4 * 4) o23 ho23) H.size) (cwV 4 hts gX5_year_X5_whyNot rfl rfl rfl ⟨rfl, yd_X5_whyNot⟩ ⟨Nat.le_of_ble_eq_true rfl, Nat.le_of_ble_eq_true rfl⟩) (kPreV (ci := 5) (q0 := 0) hP rfl rfl hP hD hK hN) rfl rfl hl.1 rfl (lv_room (Nat.le_of_ble_eq_true rfl)) dX5_year_124 ⟨Nat.le_of_ble_eq_true rfl, Nat.le_of_ble_eq_true rfl⟩) hD hS hA (fun hzo23 H locs hP hD hS => ?_)
              have hP : va_P D vwCl (mdW K q x53_weight vkind vrhymes x53_purse x53_has vwishes vwishMany vsightLeft vsightRight vsightHow vsights vpad vpadMany vact vwho vwhich vwhom vacts x53_place x53_openMany x53_ended x53_spoken x53_heaviest x53_heaviestWeight o7 vbadAct vbadWhy vbrings vbringsThen vkept visKept vkeptAt visWriting) H := hP
              have hD : va_D A (mdW K q x53_weight vkind vrhymes x53_purse x53_has vwishes vwishMany vsightLeft vsightRight vsightHow vsights vpad vpadMany vact vwho vwhich vwhom vacts x53_place x53_openMany x53_ended x53_spoken x53_heaviest x53_heaviestWeight o7 vbadAct vbadWhy vbrings vbringsThen vkept visKept vkeptAt visWriting) := hD
              refine lv_if_ne (tgt := 142) hx hb dX5_year_127 (by decide) (fun c24 => ?_) (fun c24 => ?_)
              · rw [if_neg c24] at hs53
                refine lv_iinc (v := (x53_l5 + 1)) (lv' := [(5, .int (x53_l5 + 1)), (9, .int (((((75 * x53_l4.toInt64) + 74) - ((75 * x53_l4.toInt64) + 74) / 65537 * 65537).toInt32 / 288) - ((((75 * x53_l4.toInt64) + 74) - ((75 * x53_l4.toInt64) + 74) / 65537 * 65537).toInt32 / 288) / 4 * 4)), (8, .int (((((75 * x53_l4.toInt64) + 74) - ((75 * x53_l4.toInt64) + 74) / 65537 * 65537).toInt32 / 4) - ((((75 * x53_l4.toInt64) + 74) - ((75 * x53_l4.toInt64) + 74) / 65537 * 65537).toInt32 / 4) / 12 * 12)), (7, .int ((((75 * x53_l4.toInt64) + 74) - ((75 * x53_l4.toInt64) + 74) / 65537 * 65537).toInt32 - (((75 * x53_l4.toInt64) + 74) - ((75 * x53_l4.toInt64) + 74) / 65537 * 65537).toInt32 / 4 * 4)), (6, .int o22), (4, .int ((((75 * x53_l4.toInt64) + 74) - ((75 * x53_l4.toInt64) + 74) / 65537 * 65537).toInt32)), (0, .ref (q 0)), (1, .int p0), (2, .int p1), (3, .int p2)]) hx hb dX5_year_142 hl (k := 5) rfl (by rfl) (by decide) rfl (fun ls hl => ?_)
                refine lv_goto (tgt := 53) hx hb dX5_year_145 (by decide) ?_
                obtain rfl := Option.some.inj hs53
                exact ih53 _ _ _ _ _ _ _ _ _ _ _ _ _ _ hw53 hP hD hS (lv_sub hl [0, 5, 6, 7, 8, 9] rfl)
              · rw [if_pos c24] at hs53
                refine lv_aload_n hx hb dX5_year_130 rfl (lv_at hl 6 rfl) ?_
                refine lv_iload hx hb dX5_year_131 (lv_at hl 3 rfl) ?_
                refine lv_iload hx hb dX5_year_133 (lv_at hl 2 rfl) ?_
                refine lv_iload hx hb dX5_year_135 (lv_at hl 1 rfl) ?_
                refine lv_iload hx hb dX5_year_137 (lv_at hl 0 rfl) ?_
                obtain ⟨o25, ho25, hs53⟩ := ob_el hs53
                refine kcw_v (D := D) (va_runV (As := [.int o22, .int ((((75 * x53_l4.toInt64) + 74) - ((75 * x53_l4.toInt64) + 74) / 65537 * 65537).toInt32 - (((75 * x53_l4.toInt64) + 74) - ((75 * x53_l4.toInt64) + 74) / 65537 * 65537).toInt32 / 4 * 4), .int (((((75 * x53_l4.toInt64) + 74) - ((75 * x53_l4.toInt64) + 74) / 65537 * 65537).toInt32 / 4) - ((((75 * x53_l4.toInt64) + 74) - ((75 * x53_l4.toInt64) + 74) / 65537 * 65537).toInt32 / 4) / 12 * 12), .int (((((75 * x53_l4.toInt64) + 74) - ((75 * x53_l4.toInt64) + 74) / 65537 * 65537).toInt32 / 288) - ((((75 * x53_l4.toInt64) + 74) - ((75 * x53_l4.toInt64) + 74) / 65537 * 65537).toInt32 / 288) / 4 * 4)]) (rest := []) ⟨hx, hb, hml, hown, hts⟩ ((k_X5_happen l D K q x53_weight vkind vrhymes x53_purse x53_has vwishes vwishMany vsightLeft vsightRight vsightHow vsights vpad vpadMany vact vwho vwhich vwhom vacts x53_place x53_openMany x53_ended x53_spoken x53_heaviest x53_heaviestWeight o7 vbadAct vbadWhy vbrings vbringsThen vkept visKept vkeptAt visWriting o22 ((((75 * x53_l4.toInt64) + 74) - ((75 * x53_l4.toInt64) + 74) / 65537 * 65537).toInt32 - (((75 * x53_l4.toInt64) + 74) - ((75 * x53_l4.toInt64) + 74) / 65537 * 65537).toInt32 / 4 * 4) (((((75 * x53_l4.toInt64) + 74) - ((75 * x53_l4.toInt64) + 74) / 65537 * 65537).toInt32 / 4) - ((((75 * x53_l4.toInt64) + 74) - ((75 * x53_l4.toInt64) + 74) / 65537 * 65537).toInt32 / 4) / 12 * 12) (((((75 * x53_l4.toInt64) + 74) - ((75 * x53_l4.toInt64) + 74) / 65537 * 65537).toInt32 / 288) - ((((75 * x53_l4.toInt64) + 74) - ((75 * x53_l4.toInt64) + 74) / 65537 * 65537).toInt32 / 288) / 4 * 4) o25 ho25) H.size) (cwV 4 hts gX5_year_X5_happen rfl rfl rfl ⟨rfl, yd_X5_happen⟩ ⟨Nat.le_of_ble_eq_true rfl, Nat.le_of_ble_eq_true rfl⟩) (kPreV (ci := 5) (q0 := 0) hP rfl rfl hP hD hK hN) rfl rfl hl.1 rfl (lv_room (Nat.le_of_ble_eq_true rfl)) dX5_year_139 ⟨Nat.le_of_ble_eq_true rfl, Nat.le_of_ble_eq_true rfl⟩) hD hS hA (fun H locs hP hD hS => ?_)
                have hP : va_P D vwCl (mdW K q o25.1 vkind vrhymes o25.2.1 o25.2.2.1 vwishes vwishMany vsightLeft vsightRight vsightHow vsights vpad vpadMany vact vwho vwhich vwhom vacts o25.2.2.2.1 o25.2.2.2.2.1 o25.2.2.2.2.2.1 o25.2.2.2.2.2.2.1 o25.2.2.2.2.2.2.2.1 o25.2.2.2.2.2.2.2.2 o7 vbadAct vbadWhy vbrings vbringsThen vkept visKept vkeptAt visWriting) H := hP
                have hD : va_D A (mdW K q o25.1 vkind vrhymes o25.2.1 o25.2.2.1 vwishes vwishMany vsightLeft vsightRight vsightHow vsights vpad vpadMany vact vwho vwhich vwhom vacts o25.2.2.2.1 o25.2.2.2.2.1 o25.2.2.2.2.2.1 o25.2.2.2.2.2.2.1 o25.2.2.2.2.2.2.2.1 o25.2.2.2.2.2.2.2.2 o7 vbadAct vbadWhy vbrings vbringsThen vkept visKept vkeptAt visWriting) := hD
                refine lv_iinc (v := (x53_l5 + 1)) (lv' := [(5, .int (x53_l5 + 1)), (9, .int (((((75 * x53_l4.toInt64) + 74) - ((75 * x53_l4.toInt64) + 74) / 65537 * 65537).toInt32 / 288) - ((((75 * x53_l4.toInt64) + 74) - ((75 * x53_l4.toInt64) + 74) / 65537 * 65537).toInt32 / 288) / 4 * 4)), (8, .int (((((75 * x53_l4.toInt64) + 74) - ((75 * x53_l4.toInt64) + 74) / 65537 * 65537).toInt32 / 4) - ((((75 * x53_l4.toInt64) + 74) - ((75 * x53_l4.toInt64) + 74) / 65537 * 65537).toInt32 / 4) / 12 * 12)), (7, .int ((((75 * x53_l4.toInt64) + 74) - ((75 * x53_l4.toInt64) + 74) / 65537 * 65537).toInt32 - (((75 * x53_l4.toInt64) + 74) - ((75 * x53_l4.toInt64) + 74) / 65537 * 65537).toInt32 / 4 * 4)), (6, .int o22), (4, .int ((((75 * x53_l4.toInt64) + 74) - ((75 * x53_l4.toInt64) + 74) / 65537 * 65537).toInt32)), (0, .ref (q 0)), (1, .int p0), (2, .int p1), (3, .int p2)]) hx hb dX5_year_142 hl (k := 5) rfl (by rfl) (by decide) rfl (fun ls hl => ?_)
                refine lv_goto (tgt := 53) hx hb dX5_year_145 (by decide) ?_
                obtain rfl := Option.some.inj hs53
                exact ih53 _ _ _ _ _ _ _ _ _ _ _ _ _ _ hw53 hP hD hS (lv_sub hl [0, 5, 6, 7, 8, 9] rfl)
        exact lp53 5000 _ _ _ _ _ _ _ _ _ _ _ _ _ _ hr9 hP hD hS (lv_sub hl [0, 1, 2, 3, 4, 5] rfl)
      · rw [if_pos c6] at hf
        refine lv_bipush (v := (-2)) hx hb dX5_year_36 (by decide) ?_
        obtain rfl := Option.some.inj hf
        exact hret rfl rfl rfl hP hD hS dX5_year_38
def f_X5_pass (vkept : Nat → Int32) (vkeptAt : Int32) (visWriting : Int32) (p0 : Int32) : Option (Int32 × (Nat → Int32) × Int32) := if visWriting = 0 then (chk vkeptAt 180 (some ((vkept (vkeptAt).toNatClampNeg), (upd vkept (vkeptAt).toNatClampNeg (vkept (vkeptAt).toNatClampNeg)), (vkeptAt + 1)))) else (chk vkeptAt 180 (some (p0, (upd vkept (vkeptAt).toNatClampNeg p0), (vkeptAt + 1))))
theorem inX5_pass_X5 : ∀ w ∈ wsX50, w ∈ wsX5_pass := fun w h => List.mem_cons_of_mem _ (List.mem_append_right _ h)
theorem yd_X5_pass : yX5_pass.cls ≠ "java/lang/invoke/MethodHandle" ∧ yX5_pass.cls ≠ "java/lang/invoke/VarHandle" ∧ (parseMethodDescriptor yX5_pass.desc).map (fun d => d.parameters.length) = some 1 := by decide +kernel
abbrev rmX5_pass : Room := { frames := 0, cells := 0, slots := 0, locals := 0 }
set_option maxHeartbeats 4000000 in
set_option maxRecDepth 100000 in
theorem k_X5_pass (l : Launch) (D : va_G) (K : Nat → ClassId) (q : Nat → Nat) (vweight : Nat → Int32) (vkind : Nat → Int32) (vrhymes : Nat → Int32) (vpurse : Nat → Int32) (vhas : Nat → Int32) (vwishes : Nat → Int32) (vwishMany : Int32) (vsightLeft : Nat → Int32) (vsightRight : Nat → Int32) (vsightHow : Nat → Int32) (vsights : Int32) (vpad : Nat → Int32) (vpadMany : Int32) (vact : Nat → Int32) (vwho : Nat → Int32) (vwhich : Nat → Int32) (vwhom : Nat → Int32) (vacts : Int32) (vplace : Int32) (vopenMany : Int32) (vended : Int32) (vspoken : Int32) (vheaviest : Int32) (vheaviestWeight : Int32) (vhad : Nat → Int32) (vbadAct : Int32) (vbadWhy : Int32) (vbrings : Nat → Int64) (vbringsThen : Nat → Int64) (vkept : Nat → Int32) (visKept : Nat → Int32) (vkeptAt : Int32) (visWriting : Int32) (p0 : Int32) (out : Int32 × (Nat → Int32) × Int32) (hf : f_X5_pass vkept vkeptAt visWriting p0 = some out) : kI l D K .int yX5_pass wsX5_pass rmX5_pass [.ref (q 0), .int p0] (mdW K q vweight vkind vrhymes vpurse vhas vwishes vwishMany vsightLeft vsightRight vsightHow vsights vpad vpadMany vact vwho vwhich vwhom vacts vplace vopenMany vended vspoken vheaviest vheaviestWeight vhad vbadAct vbadWhy vbrings vbringsThen vkept visKept vkeptAt visWriting) out.1 (mdW K q vweight vkind vrhymes vpurse vhas vwishes vwishMany vsightLeft vsightRight vsightHow vsights vpad vpadMany vact vwho vwhich vwhom vacts vplace vopenMany vended vspoken vheaviest vheaviestWeight vhad vbadAct vbadWhy vbrings vbringsThen out.2.1 visKept out.2.2 visWriting) := by
  refine kI.of (cc := cX5_pass) (maxL := 3) (by decide) rfl (Nat.le_of_ble_eq_true rfl) ?_
  intro p e s m args below meth c A H0 Q ls hx hb hml hown hts hK hN hA hP hD hS hl hret
  have hown : s.vm.findClass RX5 = some m.cls := hown
  have hl : lv_has ls 3 [(0, .ref (q 0)), (1, .int p0)] := hl
  generalize hH : H0 = H at hP ⊢
  have hS : va_S A H0 H [] := by rw [← hH]; exact hS
  clear hH
  unfold f_X5_pass at hf
  refine lv_aload_n hx hb dX5_pass_0 rfl (lv_at hl 0 rfl) ?_
  refine va_get (D := D) (ci := 5) (v := .int visWriting) (C := RX5) (T := TX5) (N := 33) hx hb hts inX5_pass_X5 hown hK hP 0 rfl rfl 32 (by decide) (hts (.fieldLink RX5 259 "WordScalesModel" "isWriting" "Z") (List.mem_of_getElem? (i := 1) rfl)) (fun _ h9 => h9) rfl dX5_pass_1 ?_
  refine lv_if_eq (tgt := 11) hx hb dX5_pass_4 (by decide) (fun c1 => ?_) (fun c1 => ?_)
  · rw [if_pos c1] at hf
    refine lv_aload_n hx hb dX5_pass_11 rfl (lv_at hl 0 rfl) ?_
    refine va_get (D := D) (ci := 5) (v := .ref (q 18)) (C := RX5) (T := TX5) (N := 33) hx hb hts inX5_pass_X5 hown hK hP 0 rfl rfl 29 (by decide) (hts (.fieldLink RX5 62 "WordScalesModel" "kept" "[I") (List.mem_of_getElem? (i := 2) rfl)) (fun _ h9 => h9) rfl dX5_pass_12 ?_
    refine lv_aload_n hx hb dX5_pass_15 rfl (lv_at hl 0 rfl) ?_
    refine va_get (D := D) (ci := 5) (v := .int vkeptAt) (C := RX5) (T := TX5) (N := 33) hx hb hts inX5_pass_X5 hown hK hP 0 rfl rfl 31 (by decide) (hts (.fieldLink RX5 263 "WordScalesModel" "keptAt" "I") (List.mem_of_getElem? (i := 3) rfl)) (fun _ h9 => h9) rfl dX5_pass_16 ?_
    obtain ⟨v2, hf⟩ := chk_el hf
    refine va_iald (D := D) (f := vkept) hx hb hK hP 18 0 rfl rfl v2 dX5_pass_19 ?_
    refine lv_istore_n (lv' := [(2, .int (vkept (vkeptAt).toNatClampNeg)), (0, .ref (q 0)), (1, .int p0)]) hx hb dX5_pass_20 rfl hl (by decide) rfl (fun ls hl => ?_)
    refine lv_aload_n hx hb dX5_pass_21 rfl (lv_at hl 1 rfl) ?_
    refine va_get (D := D) (ci := 5) (v := .ref (q 18)) (C := RX5) (T := TX5) (N := 33) hx hb hts inX5_pass_X5 hown hK hP 0 rfl rfl 29 (by decide) (hts (.fieldLink RX5 62 "WordScalesModel" "kept" "[I") (List.mem_of_getElem? (i := 2) rfl)) (fun _ h9 => h9) rfl dX5_pass_22 ?_
    refine lv_aload_n hx hb dX5_pass_25 rfl (lv_at hl 1 rfl) ?_
    refine va_get (D := D) (ci := 5) (v := .int vkeptAt) (C := RX5) (T := TX5) (N := 33) hx hb hts inX5_pass_X5 hown hK hP 0 rfl rfl 31 (by decide) (hts (.fieldLink RX5 263 "WordScalesModel" "keptAt" "I") (List.mem_of_getElem? (i := 3) rfl)) (fun _ h9 => h9) rfl dX5_pass_26 ?_
    refine lv_iload_n hx hb dX5_pass_29 rfl (lv_at hl 0 rfl) ?_
    refine va_iast (D := D) (f := vkept) hx hb hK hP hD hS 18 0 rfl rfl v2 dX5_pass_30 (fun H locs hP hD hS => ?_)
    have hP : va_P D vwCl (mdW K q vweight vkind vrhymes vpurse vhas vwishes vwishMany vsightLeft vsightRight vsightHow vsights vpad vpadMany vact vwho vwhich vwhom vacts vplace vopenMany vended vspoken vheaviest vheaviestWeight vhad vbadAct vbadWhy vbrings vbringsThen (upd vkept (vkeptAt).toNatClampNeg (vkept (vkeptAt).toNatClampNeg)) visKept vkeptAt visWriting) H := hP
    have hD : va_D A (mdW K q vweight vkind vrhymes vpurse vhas vwishes vwishMany vsightLeft vsightRight vsightHow vsights vpad vpadMany vact vwho vwhich vwhom vacts vplace vopenMany vended vspoken vheaviest vheaviestWeight vhad vbadAct vbadWhy vbrings vbringsThen (upd vkept (vkeptAt).toNatClampNeg (vkept (vkeptAt).toNatClampNeg)) visKept vkeptAt visWriting) := hD
    refine lv_aload_n hx hb dX5_pass_31 rfl (lv_at hl 1 rfl) ?_
    refine lv_dup hx hb dX5_pass_32 rfl ?_
    refine va_get (D := D) (ci := 5) (v := .int vkeptAt) (C := RX5) (T := TX5) (N := 33) hx hb hts inX5_pass_X5 hown hK hP 0 rfl rfl 31 (by decide) (hts (.fieldLink RX5 263 "WordScalesModel" "keptAt" "I") (List.mem_of_getElem? (i := 3) rfl)) (fun _ h9 => h9) rfl dX5_pass_33 ?_
    refine lv_iconst (v := 1) hx hb dX5_pass_36 (by decide) ?_
    refine lv_iadd hx hb dX5_pass_37 ?_
    refine va_put (D := D) (ci := 5) (v := .int (vkeptAt + 1)) (ty := .int) (C := RX5) (T := TX5) (N := 33) hx hb hts inX5_pass_X5 tyX5 tyX5_ok nmX5 hown hK hP hD hS 0 rfl rfl 31 (by decide) (hts (.fieldLink RX5 263 "WordScalesModel" "keptAt" "I") (List.mem_of_getElem? (i := 3) rfl)) (fun _ h9 => h9) rfl (tyX5_ok 31 (by decide)) rfl rfl (Nat.le_of_ble_eq_true rfl) dX5_pass_38 (fun H locs hP hD hS => ?_)
    have hP : va_P D vwCl (mdW K q vweight vkind vrhymes vpurse vhas vwishes vwishMany vsightLeft vsightRight vsightHow vsights vpad vpadMany vact vwho vwhich vwhom vacts vplace vopenMany vended vspoken vheaviest vheaviestWeight vhad vbadAct vbadWhy vbrings vbringsThen (upd vkept (vkeptAt).toNatClampNeg (vkept (vkeptAt).toNatClampNeg)) visKept (vkeptAt + 1) visWriting) H := hP
    have hD : va_D A (mdW K q vweight vkind vrhymes vpurse vhas vwishes vwishMany vsightLeft vsightRight vsightHow vsights vpad vpadMany vact vwho vwhich vwhom vacts vplace vopenMany vended vspoken vheaviest vheaviestWeight vhad vbadAct vbadWhy vbrings vbringsThen (upd vkept (vkeptAt).toNatClampNeg (vkept (vkeptAt).toNatClampNeg)) visKept (vkeptAt + 1) visWriting) := hD
    refine lv_iload_n hx hb dX5_pass_41 rfl (lv_at hl 0 rfl) ?_
    obtain rfl := Option.some.inj hf
    exact hret rfl rfl rfl hP hD hS dX5_pass_42
  · rw [if_neg c1] at hf
    refine lv_iload_n hx hb dX5_pass_7 rfl (lv_at hl 1 rfl) ?_
    refine lv_goto (tgt := 20) hx hb dX5_pass_8 (by decide) ?_
    refine lv_istore_n (lv' := [(2, .int p0), (0, .ref (q 0)), (1, .int p0)]) hx hb dX5_pass_20 rfl hl (by decide) rfl (fun ls hl => ?_)
    refine lv_aload_n hx hb dX5_pass_21 rfl (lv_at hl 1 rfl) ?_
    refine va_get (D := D) (ci := 5) (v := .ref (q 18)) (C := RX5) (T := TX5) (N := 33) hx hb hts inX5_pass_X5 hown hK hP 0 rfl rfl 29 (by decide) (hts (.fieldLink RX5 62 "WordScalesModel" "kept" "[I") (List.mem_of_getElem? (i := 2) rfl)) (fun _ h9 => h9) rfl dX5_pass_22 ?_
    refine lv_aload_n hx hb dX5_pass_25 rfl (lv_at hl 1 rfl) ?_
    refine va_get (D := D) (ci := 5) (v := .int vkeptAt) (C := RX5) (T := TX5) (N := 33) hx hb hts inX5_pass_X5 hown hK hP 0 rfl rfl 31 (by decide) (hts (.fieldLink RX5 263 "WordScalesModel" "keptAt" "I") (List.mem_of_getElem? (i := 3) rfl)) (fun _ h9 => h9) rfl dX5_pass_26 ?_
    refine lv_iload_n hx hb dX5_pass_29 rfl (lv_at hl 0 rfl) ?_
    obtain ⟨v3, hf⟩ := chk_el hf
    refine va_iast (D := D) (f := vkept) hx hb hK hP hD hS 18 0 rfl rfl v3 dX5_pass_30 (fun H locs hP hD hS => ?_)
    have hP : va_P D vwCl (mdW K q vweight vkind vrhymes vpurse vhas vwishes vwishMany vsightLeft vsightRight vsightHow vsights vpad vpadMany vact vwho vwhich vwhom vacts vplace vopenMany vended vspoken vheaviest vheaviestWeight vhad vbadAct vbadWhy vbrings vbringsThen (upd vkept (vkeptAt).toNatClampNeg p0) visKept vkeptAt visWriting) H := hP
    have hD : va_D A (mdW K q vweight vkind vrhymes vpurse vhas vwishes vwishMany vsightLeft vsightRight vsightHow vsights vpad vpadMany vact vwho vwhich vwhom vacts vplace vopenMany vended vspoken vheaviest vheaviestWeight vhad vbadAct vbadWhy vbrings vbringsThen (upd vkept (vkeptAt).toNatClampNeg p0) visKept vkeptAt visWriting) := hD
    refine lv_aload_n hx hb dX5_pass_31 rfl (lv_at hl 1 rfl) ?_
    refine lv_dup hx hb dX5_pass_32 rfl ?_
    refine va_get (D := D) (ci := 5) (v := .int vkeptAt) (C := RX5) (T := TX5) (N := 33) hx hb hts inX5_pass_X5 hown hK hP 0 rfl rfl 31 (by decide) (hts (.fieldLink RX5 263 "WordScalesModel" "keptAt" "I") (List.mem_of_getElem? (i := 3) rfl)) (fun _ h9 => h9) rfl dX5_pass_33 ?_
    refine lv_iconst (v := 1) hx hb dX5_pass_36 (by decide) ?_
    refine lv_iadd hx hb dX5_pass_37 ?_
    refine va_put (D := D) (ci := 5) (v := .int (vkeptAt + 1)) (ty := .int) (C := RX5) (T := TX5) (N := 33) hx hb hts inX5_pass_X5 tyX5 tyX5_ok nmX5 hown hK hP hD hS 0 rfl rfl 31 (by decide) (hts (.fieldLink RX5 263 "WordScalesModel" "keptAt" "I") (List.mem_of_getElem? (i := 3) rfl)) (fun _ h9 => h9) rfl (tyX5_ok 31 (by decide)) rfl rfl (Nat.le_of_ble_eq_true rfl) dX5_pass_38 (fun H locs hP hD hS => ?_)
    have hP : va_P D vwCl (mdW K q vweight vkind vrhymes vpurse vhas vwishes vwishMany vsightLeft vsightRight vsightHow vsights vpad vpadMany vact vwho vwhich vwhom vacts vplace vopenMany vended vspoken vheaviest vheaviestWeight vhad vbadAct vbadWhy vbrings vbringsThen (upd vkept (vkeptAt).toNatClampNeg p0) visKept (vkeptAt + 1) visWriting) H := hP
    have hD : va_D A (mdW K q vweight vkind vrhymes vpurse vhas vwishes vwishMany vsightLeft vsightRight vsightHow vsights vpad vpadMany vact vwho vwhich vwhom vacts vplace vopenMany vended vspoken vheaviest vheaviestWeight vhad vbadAct vbadWhy vbrings vbringsThen (upd vkept (vkeptAt).toNatClampNeg p0) visKept (vkeptAt + 1) visWriting) := hD
    refine lv_iload_n hx hb dX5_pass_41 rfl (lv_at hl 0 rfl) ?_
    obtain rfl := Option.some.inj hf
    exact hret rfl rfl rfl hP hD hS dX5_pass_42
def s_X5_passRow_weight_2 (visWriting : Int32) (p1 : Int32) (x : Int32 × (Nat → Int32) × Int32 × (Nat → Int32)) : Option ((Int32 × (Nat → Int32) × Int32 × (Nat → Int32)) ⊕ (Int32 × (Nat → Int32) × Int32 × (Nat → Int32))) := if p1 ≤ x.1 then (some (.inr (x.1, x.2.1, x.2.2.1, x.2.2.2))) else (chk x.1 12 (ob (f_X5_pass x.2.1 x.2.2.1 visWriting (x.2.2.2 (x.1).toNatClampNeg)) (fun o4 => some (.inl ((x.1 + 1), o4.2.1, o4.2.2, (upd x.2.2.2 (x.1).toNatClampNeg o4.1))))))
def f_X5_passRow_weight (vweight : Nat → Int32) (vkept : Nat → Int32) (vkeptAt : Int32) (visWriting : Int32) (p1 : Int32) : Option ((Nat → Int32) × (Nat → Int32) × Int32) := ob (wh (s_X5_passRow_weight_2 visWriting p1) 5000 (0, vkept, vkeptAt, vweight)) (fun r1 => some (r1.2.2.2, r1.2.1, r1.2.2.1))
theorem yd_X5_passRow : yX5_passRow.cls ≠ "java/lang/invoke/MethodHandle" ∧ yX5_passRow.cls ≠ "java/lang/invoke/VarHandle" ∧ (parseMethodDescriptor yX5_passRow.desc).map (fun d => d.parameters.length) = some 2 := by decide +kernel
abbrev rmX5_passRow : Room := { frames := 1, cells := 0, slots := 0, locals := 22 }
set_option maxHeartbeats 4000000 in
set_option maxRecDepth 100000 in
theorem k_X5_passRow_weight (l : Launch) (D : va_G) (K : Nat → ClassId) (q : Nat → Nat) (vweight : Nat → Int32) (vkind : Nat → Int32) (vrhymes : Nat → Int32) (vpurse : Nat → Int32) (vhas : Nat → Int32) (vwishes : Nat → Int32) (vwishMany : Int32) (vsightLeft : Nat → Int32) (vsightRight : Nat → Int32) (vsightHow : Nat → Int32) (vsights : Int32) (vpad : Nat → Int32) (vpadMany : Int32) (vact : Nat → Int32) (vwho : Nat → Int32) (vwhich : Nat → Int32) (vwhom : Nat → Int32) (vacts : Int32) (vplace : Int32) (vopenMany : Int32) (vended : Int32) (vspoken : Int32) (vheaviest : Int32) (vheaviestWeight : Int32) (vhad : Nat → Int32) (vbadAct : Int32) (vbadWhy : Int32) (vbrings : Nat → Int64) (vbringsThen : Nat → Int64) (vkept : Nat → Int32) (visKept : Nat → Int32) (vkeptAt : Int32) (visWriting : Int32) (p1 : Int32) (out : (Nat → Int32) × (Nat → Int32) × Int32) (hf : f_X5_passRow_weight vweight vkept vkeptAt visWriting p1 = some out) : kV l D K yX5_passRow wsX5_passRow rmX5_passRow [.ref (q 0), .ref (q 1), .int p1] (mdW K q vweight vkind vrhymes vpurse vhas vwishes vwishMany vsightLeft vsightRight vsightHow vsights vpad vpadMany vact vwho vwhich vwhom vacts vplace vopenMany vended vspoken vheaviest vheaviestWeight vhad vbadAct vbadWhy vbrings vbringsThen vkept visKept vkeptAt visWriting) (mdW K q out.1 vkind vrhymes vpurse vhas vwishes vwishMany vsightLeft vsightRight vsightHow vsights vpad vpadMany vact vwho vwhich vwhom vacts vplace vopenMany vended vspoken vheaviest vheaviestWeight vhad vbadAct vbadWhy vbrings vbringsThen out.2.1 visKept out.2.2 visWriting) := by
  refine kV.of (cc := cX5_passRow) (maxL := 4) (by decide) rfl (Nat.le_of_ble_eq_true rfl) ?_
  intro p e s m args below meth c A H0 Q ls hx hb hml hown hts hK hN hA hP hD hS hl hret
  have hown : s.vm.findClass RX5 = some m.cls := hown
  have hl : lv_has ls 4 [(0, .ref (q 0)), (1, .ref (q 1)), (2, .int p1)] := hl
  generalize hH : H0 = H at hP ⊢
  have hS : va_S A H0 H [] := by rw [← hH]; exact hS
  clear hH
  unfold f_X5_passRow_weight at hf
  refine lv_iconst (v := 0) hx hb dX5_passRow_0 (by decide) ?_
  refine lv_istore_n (lv' := [(3, .int 0), (0, .ref (q 0)), (1, .ref (q 1)), (2, .int p1)]) hx hb dX5_passRow_1 rfl hl (by decide) rfl (fun ls hl => ?_)
  obtain ⟨r1, hr1, hf⟩ := ob_el hf
  have post2 : ∀ (e2_l3 : Int32) (e2_kept : Nat → Int32) (e2_keptAt : Int32) (e2_weight : Nat → Int32) (H : Heap) (locs : List Loc) (ls : Array Slot), (some (e2_weight, e2_kept, e2_keptAt)) = some out → va_P D vwCl (mdW K q e2_weight vkind vrhymes vpurse vhas vwishes vwishMany vsightLeft vsightRight vsightHow vsights vpad vpadMany vact vwho vwhich vwhom vacts vplace vopenMany vended vspoken vheaviest vheaviestWeight vhad vbadAct vbadWhy vbrings vbringsThen e2_kept visKept e2_keptAt visWriting) H → va_D A (mdW K q e2_weight vkind vrhymes vpurse vhas vwishes vwishMany vsightLeft vsightRight vsightHow vsights vpad vpadMany vact vwho vwhich vwhom vacts vplace vopenMany vended vspoken vheaviest vheaviestWeight vhad vbadAct vbadWhy vbrings vbringsThen e2_kept visKept e2_keptAt visWriting) → va_S A H0 H locs → lv_has ls 4 [(3, .int e2_l3), (0, .ref (q 0)), (1, .ref (q 1)), (2, .int p1)] → W p l e rmX5_passRow s m args below meth c H locs 0 0 Q (F0 m 23 ls []) := by
    intro e2_l3 e2_kept e2_keptAt e2_weight H locs ls hf hP hD hS hl
    obtain rfl := Option.some.inj hf
    exact hret rfl hP hD hS dX5_passRow_23
  have lp2 : ∀ (fu : Nat) (x2_l3 : Int32) (x2_kept : Nat → Int32) (x2_keptAt : Int32) (x2_weight : Nat → Int32) (H : Heap) (locs : List Loc) (ls : Array Slot), wh (s_X5_passRow_weight_2 visWriting p1) fu (x2_l3, x2_kept, x2_keptAt, x2_weight) = some r1 → va_P D vwCl (mdW K q x2_weight vkind vrhymes vpurse vhas vwishes vwishMany vsightLeft vsightRight vsightHow vsights vpad vpadMany vact vwho vwhich vwhom vacts vplace vopenMany vended vspoken vheaviest vheaviestWeight vhad vbadAct vbadWhy vbrings vbringsThen x2_kept visKept x2_keptAt visWriting) H → va_D A (mdW K q x2_weight vkind vrhymes vpurse vhas vwishes vwishMany vsightLeft vsightRight vsightHow vsights vpad vpadMany vact vwho vwhich vwhom vacts vplace vopenMany vended vspoken vheaviest vheaviestWeight vhad vbadAct vbadWhy vbrings vbringsThen x2_kept visKept x2_keptAt visWriting) → va_S A H0 H locs → lv_has ls 4 [(3, .int x2_l3), (0, .ref (q 0)), (1, .ref (q 1)), (2, .int p1)] → W p l e rmX5_passRow s m args below meth c H locs 0 0 Q (F0 m 2 ls []) := by
    intro fu
    induction fu with
    | zero => intro x2_l3 x2_kept x2_keptAt x2_weight H locs ls hw2; cases hw2
    | succ fu ih2 =>
      intro x2_l3 x2_kept x2_keptAt x2_weight H locs ls hw2 hP hD hS hl
      obtain ⟨o2_, hs2, hw2⟩ := wh_el hw2
      unfold s_X5_passRow_weight_2 at hs2
      dsimp only at hs2
      refine lv_iload_n hx hb dX5_passRow_2 rfl (lv_at hl 0 rfl) ?_
      refine lv_iload_n hx hb dX5_passRow_3 rfl (lv_at hl 3 rfl) ?_
      refine lv_icmp_ge (tgt := 23) hx hb dX5_passRow_4 (by decide) (fun c2 => ?_) (fun c2 => ?_)
      · rw [if_pos c2] at hs2
        obtain rfl := Option.some.inj hs2
        have e9 := Option.some.inj hw2
        rw [← e9] at hf
        exact post2 _ _ _ _ _ _ _ hf hP hD hS (lv_sub hl [0, 1, 2, 3] rfl)
      · rw [if_neg c2] at hs2
        refine lv_aload_n hx hb dX5_passRow_7 rfl (lv_at hl 2 rfl) ?_
        refine lv_iload_n hx hb dX5_passRow_8 rfl (lv_at hl 0 rfl) ?_
        refine lv_aload_n hx hb dX5_passRow_9 rfl (lv_at hl 1 rfl) ?_
        refine lv_aload_n hx hb dX5_passRow_10 rfl (lv_at hl 2 rfl) ?_
        refine lv_iload_n hx hb dX5_passRow_11 rfl (lv_at hl 0 rfl) ?_
        obtain ⟨v3, hs2⟩ := chk_el hs2
        refine va_iald (D := D) (f := x2_weight) hx hb hK hP 1 0 rfl rfl v3 dX5_passRow_12 ?_
        obtain ⟨o4, ho4, hs2⟩ := ob_el hs2
        refine kcw_i (D := D) (va_runV (As := [.int (x2_weight (x2_l3).toNatClampNeg)]) (rest := [.int x2_l3, .ref (q 1)]) ⟨hx, hb, hml, hown, hts⟩ ((k_X5_pass l D K q x2_weight vkind vrhymes vpurse vhas vwishes vwishMany vsightLeft vsightRight vsightHow vsights vpad vpadMany vact vwho vwhich vwhom vacts vplace vopenMany vended vspoken vheaviest vheaviestWeight vhad vbadAct vbadWhy vbrings vbringsThen x2_kept visKept x2_keptAt visWriting (x2_weight (x2_l3).toNatClampNeg) o4 ho4) H.size) (cwV 1 hts gX5_passRow_X5_pass rfl rfl rfl ⟨rfl, yd_X5_pass⟩ ⟨Nat.le_of_ble_eq_true rfl, Nat.le_of_ble_eq_true rfl⟩) (kPreV (ci := 5) (q0 := 0) hP rfl rfl hP hD hK hN) rfl rfl hl.1 rfl (lv_room (Nat.le_of_ble_eq_true rfl)) dX5_passRow_13 ⟨Nat.le_of_ble_eq_true rfl, Nat.le_of_ble_eq_true rfl⟩) hD hS hA (fun hzo4 H locs hP hD hS => ?_)
        have hP : va_P D vwCl (mdW K q x2_weight vkind vrhymes vpurse vhas vwishes vwishMany vsightLeft vsightRight vsightHow vsights vpad vpadMany vact vwho vwhich vwhom vacts vplace vopenMany vended vspoken vheaviest vheaviestWeight vhad vbadAct vbadWhy vbrings vbringsThen o4.2.1 visKept o4.2.2 visWriting) H := hP
        have hD : va_D A (mdW K q x2_weight vkind vrhymes vpurse vhas vwishes vwishMany vsightLeft vsightRight vsightHow vsights vpad vpadMany vact vwho vwhich vwhom vacts vplace vopenMany vended vspoken vheaviest vheaviestWeight vhad vbadAct vbadWhy vbrings vbringsThen o4.2.1 visKept o4.2.2 visWriting) := hD
        refine va_iast (D := D) (f := x2_weight) hx hb hK hP hD hS 1 0 rfl rfl v3 dX5_passRow_16 (fun H locs hP hD hS => ?_)
        have hP : va_P D vwCl (mdW K q (upd x2_weight (x2_l3).toNatClampNeg o4.1) vkind vrhymes vpurse vhas vwishes vwishMany vsightLeft vsightRight vsightHow vsights vpad vpadMany vact vwho vwhich vwhom vacts vplace vopenMany vended vspoken vheaviest vheaviestWeight vhad vbadAct vbadWhy vbrings vbringsThen o4.2.1 visKept o4.2.2 visWriting) H := hP
        have hD : va_D A (mdW K q (upd x2_weight (x2_l3).toNatClampNeg o4.1) vkind vrhymes vpurse vhas vwishes vwishMany vsightLeft vsightRight vsightHow vsights vpad vpadMany vact vwho vwhich vwhom vacts vplace vopenMany vended vspoken vheaviest vheaviestWeight vhad vbadAct vbadWhy vbrings vbringsThen o4.2.1 visKept o4.2.2 visWriting) := hD
        refine lv_iinc (v := (x2_l3 + 1)) (lv' := [(3, .int (x2_l3 + 1)), (0, .ref (q 0)), (1, .ref (q 1)), (2, .int p1)]) hx hb dX5_passRow_17 hl (k := 0) rfl (by rfl) (by decide) rfl (fun ls hl => ?_)
        refine lv_goto (tgt := 2) hx hb dX5_passRow_20 (by decide) ?_
        obtain rfl := Option.some.inj hs2
        exact ih2 _ _ _ _ _ _ _ hw2 hP hD hS (lv_sub hl [0, 1, 2, 3] rfl)
  exact lp2 5000 _ _ _ _ _ _ _ hr1 hP hD hS (lv_sub hl [0, 1, 2, 3] rfl)
def s_X5_passRow_kind_2 (visWriting : Int32) (p1 : Int32) (x : Int32 × (Nat → Int32) × Int32 × (Nat → Int32)) : Option ((Int32 × (Nat → Int32) × Int32 × (Nat → Int32)) ⊕ (Int32 × (Nat → Int32) × Int32 × (Nat → Int32))) := if p1 ≤ x.1 then (some (.inr (x.1, x.2.1, x.2.2.1, x.2.2.2))) else (chk x.1 12 (ob (f_X5_pass x.2.1 x.2.2.1 visWriting (x.2.2.2 (x.1).toNatClampNeg)) (fun o4 => some (.inl ((x.1 + 1), o4.2.1, o4.2.2, (upd x.2.2.2 (x.1).toNatClampNeg o4.1))))))
def f_X5_passRow_kind (vkind : Nat → Int32) (vkept : Nat → Int32) (vkeptAt : Int32) (visWriting : Int32) (p1 : Int32) : Option ((Nat → Int32) × (Nat → Int32) × Int32) := ob (wh (s_X5_passRow_kind_2 visWriting p1) 5000 (0, vkept, vkeptAt, vkind)) (fun r1 => some (r1.2.2.2, r1.2.1, r1.2.2.1))
set_option maxHeartbeats 4000000 in
set_option maxRecDepth 100000 in
theorem k_X5_passRow_kind (l : Launch) (D : va_G) (K : Nat → ClassId) (q : Nat → Nat) (vweight : Nat → Int32) (vkind : Nat → Int32) (vrhymes : Nat → Int32) (vpurse : Nat → Int32) (vhas : Nat → Int32) (vwishes : Nat → Int32) (vwishMany : Int32) (vsightLeft : Nat → Int32) (vsightRight : Nat → Int32) (vsightHow : Nat → Int32) (vsights : Int32) (vpad : Nat → Int32) (vpadMany : Int32) (vact : Nat → Int32) (vwho : Nat → Int32) (vwhich : Nat → Int32) (vwhom : Nat → Int32) (vacts : Int32) (vplace : Int32) (vopenMany : Int32) (vended : Int32) (vspoken : Int32) (vheaviest : Int32) (vheaviestWeight : Int32) (vhad : Nat → Int32) (vbadAct : Int32) (vbadWhy : Int32) (vbrings : Nat → Int64) (vbringsThen : Nat → Int64) (vkept : Nat → Int32) (visKept : Nat → Int32) (vkeptAt : Int32) (visWriting : Int32) (p1 : Int32) (out : (Nat → Int32) × (Nat → Int32) × Int32) (hf : f_X5_passRow_kind vkind vkept vkeptAt visWriting p1 = some out) : kV l D K yX5_passRow wsX5_passRow rmX5_passRow [.ref (q 0), .ref (q 2), .int p1] (mdW K q vweight vkind vrhymes vpurse vhas vwishes vwishMany vsightLeft vsightRight vsightHow vsights vpad vpadMany vact vwho vwhich vwhom vacts vplace vopenMany vended vspoken vheaviest vheaviestWeight vhad vbadAct vbadWhy vbrings vbringsThen vkept visKept vkeptAt visWriting) (mdW K q vweight out.1 vrhymes vpurse vhas vwishes vwishMany vsightLeft vsightRight vsightHow vsights vpad vpadMany vact vwho vwhich vwhom vacts vplace vopenMany vended vspoken vheaviest vheaviestWeight vhad vbadAct vbadWhy vbrings vbringsThen out.2.1 visKept out.2.2 visWriting) := by
  refine kV.of (cc := cX5_passRow) (maxL := 4) (by decide) rfl (Nat.le_of_ble_eq_true rfl) ?_
  intro p e s m args below meth c A H0 Q ls hx hb hml hown hts hK hN hA hP hD hS hl hret
  have hown : s.vm.findClass RX5 = some m.cls := hown
  have hl : lv_has ls 4 [(0, .ref (q 0)), (1, .ref (q 2)), (2, .int p1)] := hl
  generalize hH : H0 = H at hP ⊢
  have hS : va_S A H0 H [] := by rw [← hH]; exact hS
  clear hH
  unfold f_X5_passRow_kind at hf
  refine lv_iconst (v := 0) hx hb dX5_passRow_0 (by decide) ?_
  refine lv_istore_n (lv' := [(3, .int 0), (0, .ref (q 0)), (1, .ref (q 2)), (2, .int p1)]) hx hb dX5_passRow_1 rfl hl (by decide) rfl (fun ls hl => ?_)
  obtain ⟨r1, hr1, hf⟩ := ob_el hf
  have post2 : ∀ (e2_l3 : Int32) (e2_kept : Nat → Int32) (e2_keptAt : Int32) (e2_kind : Nat → Int32) (H : Heap) (locs : List Loc) (ls : Array Slot), (some (e2_kind, e2_kept, e2_keptAt)) = some out → va_P D vwCl (mdW K q vweight e2_kind vrhymes vpurse vhas vwishes vwishMany vsightLeft vsightRight vsightHow vsights vpad vpadMany vact vwho vwhich vwhom vacts vplace vopenMany vended vspoken vheaviest vheaviestWeight vhad vbadAct vbadWhy vbrings vbringsThen e2_kept visKept e2_keptAt visWriting) H → va_D A (mdW K q vweight e2_kind vrhymes vpurse vhas vwishes vwishMany vsightLeft vsightRight vsightHow vsights vpad vpadMany vact vwho vwhich vwhom vacts vplace vopenMany vended vspoken vheaviest vheaviestWeight vhad vbadAct vbadWhy vbrings vbringsThen e2_kept visKept e2_keptAt visWriting) → va_S A H0 H locs → lv_has ls 4 [(3, .int e2_l3), (0, .ref (q 0)), (1, .ref (q 2)), (2, .int p1)] → W p l e rmX5_passRow s m args below meth c H locs 0 0 Q (F0 m 23 ls []) := by
    intro e2_l3 e2_kept e2_keptAt e2_kind H locs ls hf hP hD hS hl
    obtain rfl := Option.some.inj hf
    exact hret rfl hP hD hS dX5_passRow_23
  have lp2 : ∀ (fu : Nat) (x2_l3 : Int32) (x2_kept : Nat → Int32) (x2_keptAt : Int32) (x2_kind : Nat → Int32) (H : Heap) (locs : List Loc) (ls : Array Slot), wh (s_X5_passRow_kind_2 visWriting p1) fu (x2_l3, x2_kept, x2_keptAt, x2_kind) = some r1 → va_P D vwCl (mdW K q vweight x2_kind vrhymes vpurse vhas vwishes vwishMany vsightLeft vsightRight vsightHow vsights vpad vpadMany vact vwho vwhich vwhom vacts vplace vopenMany vended vspoken vheaviest vheaviestWeight vhad vbadAct vbadWhy vbrings vbringsThen x2_kept visKept x2_keptAt visWriting) H → va_D A (mdW K q vweight x2_kind vrhymes vpurse vhas vwishes vwishMany vsightLeft vsightRight vsightHow vsights vpad vpadMany vact vwho vwhich vwhom vacts vplace vopenMany vended vspoken vheaviest vheaviestWeight vhad vbadAct vbadWhy vbrings vbringsThen x2_kept visKept x2_keptAt visWriting) → va_S A H0 H locs → lv_has ls 4 [(3, .int x2_l3), (0, .ref (q 0)), (1, .ref (q 2)), (2, .int p1)] → W p l e rmX5_passRow s m args below meth c H locs 0 0 Q (F0 m 2 ls []) := by
    intro fu
    induction fu with
    | zero => intro x2_l3 x2_kept x2_keptAt x2_kind H locs ls hw2; cases hw2
    | succ fu ih2 =>
      intro x2_l3 x2_kept x2_keptAt x2_kind H locs ls hw2 hP hD hS hl
      obtain ⟨o2_, hs2, hw2⟩ := wh_el hw2
      unfold s_X5_passRow_kind_2 at hs2
      dsimp only at hs2
      refine lv_iload_n hx hb dX5_passRow_2 rfl (lv_at hl 0 rfl) ?_
      refine lv_iload_n hx hb dX5_passRow_3 rfl (lv_at hl 3 rfl) ?_
      refine lv_icmp_ge (tgt := 23) hx hb dX5_passRow_4 (by decide) (fun c2 => ?_) (fun c2 => ?_)
      · rw [if_pos c2] at hs2
        obtain rfl := Option.some.inj hs2
        have e9 := Option.some.inj hw2
        rw [← e9] at hf
        exact post2 _ _ _ _ _ _ _ hf hP hD hS (lv_sub hl [0, 1, 2, 3] rfl)
      · rw [if_neg c2] at hs2
        refine lv_aload_n hx hb dX5_passRow_7 rfl (lv_at hl 2 rfl) ?_
        refine lv_iload_n hx hb dX5_passRow_8 rfl (lv_at hl 0 rfl) ?_
        refine lv_aload_n hx hb dX5_passRow_9 rfl (lv_at hl 1 rfl) ?_
        refine lv_aload_n hx hb dX5_passRow_10 rfl (lv_at hl 2 rfl) ?_
        refine lv_iload_n hx hb dX5_passRow_11 rfl (lv_at hl 0 rfl) ?_
        obtain ⟨v3, hs2⟩ := chk_el hs2
        refine va_iald (D := D) (f := x2_kind) hx hb hK hP 2 0 rfl rfl v3 dX5_passRow_12 ?_
        obtain ⟨o4, ho4, hs2⟩ := ob_el hs2
        refine kcw_i (D := D) (va_runV (As := [.int (x2_kind (x2_l3).toNatClampNeg)]) (rest := [.int x2_l3, .ref (q 2)]) ⟨hx, hb, hml, hown, hts⟩ ((k_X5_pass l D K q vweight x2_kind vrhymes vpurse vhas vwishes vwishMany vsightLeft vsightRight vsightHow vsights vpad vpadMany vact vwho vwhich vwhom vacts vplace vopenMany vended vspoken vheaviest vheaviestWeight vhad vbadAct vbadWhy vbrings vbringsThen x2_kept visKept x2_keptAt visWriting (x2_kind (x2_l3).toNatClampNeg) o4 ho4) H.size) (cwV 1 hts gX5_passRow_X5_pass rfl rfl rfl ⟨rfl, yd_X5_pass⟩ ⟨Nat.le_of_ble_eq_true rfl, Nat.le_of_ble_eq_true rfl⟩) (kPreV (ci := 5) (q0 := 0) hP rfl rfl hP hD hK hN) rfl rfl hl.1 rfl (lv_room (Nat.le_of_ble_eq_true rfl)) dX5_passRow_13 ⟨Nat.le_of_ble_eq_true rfl, Nat.le_of_ble_eq_true rfl⟩) hD hS hA (fun hzo4 H locs hP hD hS => ?_)
        have hP : va_P D vwCl (mdW K q vweight x2_kind vrhymes vpurse vhas vwishes vwishMany vsightLeft vsightRight vsightHow vsights vpad vpadMany vact vwho vwhich vwhom vacts vplace vopenMany vended vspoken vheaviest vheaviestWeight vhad vbadAct vbadWhy vbrings vbringsThen o4.2.1 visKept o4.2.2 visWriting) H := hP
        have hD : va_D A (mdW K q vweight x2_kind vrhymes vpurse vhas vwishes vwishMany vsightLeft vsightRight vsightHow vsights vpad vpadMany vact vwho vwhich vwhom vacts vplace vopenMany vended vspoken vheaviest vheaviestWeight vhad vbadAct vbadWhy vbrings vbringsThen o4.2.1 visKept o4.2.2 visWriting) := hD
        refine va_iast (D := D) (f := x2_kind) hx hb hK hP hD hS 2 0 rfl rfl v3 dX5_passRow_16 (fun H locs hP hD hS => ?_)
        have hP : va_P D vwCl (mdW K q vweight (upd x2_kind (x2_l3).toNatClampNeg o4.1) vrhymes vpurse vhas vwishes vwishMany vsightLeft vsightRight vsightHow vsights vpad vpadMany vact vwho vwhich vwhom vacts vplace vopenMany vended vspoken vheaviest vheaviestWeight vhad vbadAct vbadWhy vbrings vbringsThen o4.2.1 visKept o4.2.2 visWriting) H := hP
        have hD : va_D A (mdW K q vweight (upd x2_kind (x2_l3).toNatClampNeg o4.1) vrhymes vpurse vhas vwishes vwishMany vsightLeft vsightRight vsightHow vsights vpad vpadMany vact vwho vwhich vwhom vacts vplace vopenMany vended vspoken vheaviest vheaviestWeight vhad vbadAct vbadWhy vbrings vbringsThen o4.2.1 visKept o4.2.2 visWriting) := hD
        refine lv_iinc (v := (x2_l3 + 1)) (lv' := [(3, .int (x2_l3 + 1)), (0, .ref (q 0)), (1, .ref (q 2)), (2, .int p1)]) hx hb dX5_passRow_17 hl (k := 0) rfl (by rfl) (by decide) rfl (fun ls hl => ?_)
        refine lv_goto (tgt := 2) hx hb dX5_passRow_20 (by decide) ?_
        obtain rfl := Option.some.inj hs2
        exact ih2 _ _ _ _ _ _ _ hw2 hP hD hS (lv_sub hl [0, 1, 2, 3] rfl)
  exact lp2 5000 _ _ _ _ _ _ _ hr1 hP hD hS (lv_sub hl [0, 1, 2, 3] rfl)
def s_X5_passRow_rhymes_2 (visWriting : Int32) (p1 : Int32) (x : Int32 × (Nat → Int32) × Int32 × (Nat → Int32)) : Option ((Int32 × (Nat → Int32) × Int32 × (Nat → Int32)) ⊕ (Int32 × (Nat → Int32) × Int32 × (Nat → Int32))) := if p1 ≤ x.1 then (some (.inr (x.1, x.2.1, x.2.2.1, x.2.2.2))) else (chk x.1 12 (ob (f_X5_pass x.2.1 x.2.2.1 visWriting (x.2.2.2 (x.1).toNatClampNeg)) (fun o4 => some (.inl ((x.1 + 1), o4.2.1, o4.2.2, (upd x.2.2.2 (x.1).toNatClampNeg o4.1))))))
def f_X5_passRow_rhymes (vrhymes : Nat → Int32) (vkept : Nat → Int32) (vkeptAt : Int32) (visWriting : Int32) (p1 : Int32) : Option ((Nat → Int32) × (Nat → Int32) × Int32) := ob (wh (s_X5_passRow_rhymes_2 visWriting p1) 5000 (0, vkept, vkeptAt, vrhymes)) (fun r1 => some (r1.2.2.2, r1.2.1, r1.2.2.1))
set_option maxHeartbeats 4000000 in
set_option maxRecDepth 100000 in
theorem k_X5_passRow_rhymes (l : Launch) (D : va_G) (K : Nat → ClassId) (q : Nat → Nat) (vweight : Nat → Int32) (vkind : Nat → Int32) (vrhymes : Nat → Int32) (vpurse : Nat → Int32) (vhas : Nat → Int32) (vwishes : Nat → Int32) (vwishMany : Int32) (vsightLeft : Nat → Int32) (vsightRight : Nat → Int32) (vsightHow : Nat → Int32) (vsights : Int32) (vpad : Nat → Int32) (vpadMany : Int32) (vact : Nat → Int32) (vwho : Nat → Int32) (vwhich : Nat → Int32) (vwhom : Nat → Int32) (vacts : Int32) (vplace : Int32) (vopenMany : Int32) (vended : Int32) (vspoken : Int32) (vheaviest : Int32) (vheaviestWeight : Int32) (vhad : Nat → Int32) (vbadAct : Int32) (vbadWhy : Int32) (vbrings : Nat → Int64) (vbringsThen : Nat → Int64) (vkept : Nat → Int32) (visKept : Nat → Int32) (vkeptAt : Int32) (visWriting : Int32) (p1 : Int32) (out : (Nat → Int32) × (Nat → Int32) × Int32) (hf : f_X5_passRow_rhymes vrhymes vkept vkeptAt visWriting p1 = some out) : kV l D K yX5_passRow wsX5_passRow rmX5_passRow [.ref (q 0), .ref (q 3), .int p1] (mdW K q vweight vkind vrhymes vpurse vhas vwishes vwishMany vsightLeft vsightRight vsightHow vsights vpad vpadMany vact vwho vwhich vwhom vacts vplace vopenMany vended vspoken vheaviest vheaviestWeight vhad vbadAct vbadWhy vbrings vbringsThen vkept visKept vkeptAt visWriting) (mdW K q vweight vkind out.1 vpurse vhas vwishes vwishMany vsightLeft vsightRight vsightHow vsights vpad vpadMany vact vwho vwhich vwhom vacts vplace vopenMany vended vspoken vheaviest vheaviestWeight vhad vbadAct vbadWhy vbrings vbringsThen out.2.1 visKept out.2.2 visWriting) := by
  refine kV.of (cc := cX5_passRow) (maxL := 4) (by decide) rfl (Nat.le_of_ble_eq_true rfl) ?_
  intro p e s m args below meth c A H0 Q ls hx hb hml hown hts hK hN hA hP hD hS hl hret
  have hown : s.vm.findClass RX5 = some m.cls := hown
  have hl : lv_has ls 4 [(0, .ref (q 0)), (1, .ref (q 3)), (2, .int p1)] := hl
  generalize hH : H0 = H at hP ⊢
  have hS : va_S A H0 H [] := by rw [← hH]; exact hS
  clear hH
  unfold f_X5_passRow_rhymes at hf
  refine lv_iconst (v := 0) hx hb dX5_passRow_0 (by decide) ?_
  refine lv_istore_n (lv' := [(3, .int 0), (0, .ref (q 0)), (1, .ref (q 3)), (2, .int p1)]) hx hb dX5_passRow_1 rfl hl (by decide) rfl (fun ls hl => ?_)
  obtain ⟨r1, hr1, hf⟩ := ob_el hf
  have post2 : ∀ (e2_l3 : Int32) (e2_kept : Nat → Int32) (e2_keptAt : Int32) (e2_rhymes : Nat → Int32) (H : Heap) (locs : List Loc) (ls : Array Slot), (some (e2_rhymes, e2_kept, e2_keptAt)) = some out → va_P D vwCl (mdW K q vweight vkind e2_rhymes vpurse vhas vwishes vwishMany vsightLeft vsightRight vsightHow vsights vpad vpadMany vact vwho vwhich vwhom vacts vplace vopenMany vended vspoken vheaviest vheaviestWeight vhad vbadAct vbadWhy vbrings vbringsThen e2_kept visKept e2_keptAt visWriting) H → va_D A (mdW K q vweight vkind e2_rhymes vpurse vhas vwishes vwishMany vsightLeft vsightRight vsightHow vsights vpad vpadMany vact vwho vwhich vwhom vacts vplace vopenMany vended vspoken vheaviest vheaviestWeight vhad vbadAct vbadWhy vbrings vbringsThen e2_kept visKept e2_keptAt visWriting) → va_S A H0 H locs → lv_has ls 4 [(3, .int e2_l3), (0, .ref (q 0)), (1, .ref (q 3)), (2, .int p1)] → W p l e rmX5_passRow s m args below meth c H locs 0 0 Q (F0 m 23 ls []) := by
    intro e2_l3 e2_kept e2_keptAt e2_rhymes H locs ls hf hP hD hS hl
    obtain rfl := Option.some.inj hf
    exact hret rfl hP hD hS dX5_passRow_23
  have lp2 : ∀ (fu : Nat) (x2_l3 : Int32) (x2_kept : Nat → Int32) (x2_keptAt : Int32) (x2_rhymes : Nat → Int32) (H : Heap) (locs : List Loc) (ls : Array Slot), wh (s_X5_passRow_rhymes_2 visWriting p1) fu (x2_l3, x2_kept, x2_keptAt, x2_rhymes) = some r1 → va_P D vwCl (mdW K q vweight vkind x2_rhymes vpurse vhas vwishes vwishMany vsightLeft vsightRight vsightHow vsights vpad vpadMany vact vwho vwhich vwhom vacts vplace vopenMany vended vspoken vheaviest vheaviestWeight vhad vbadAct vbadWhy vbrings vbringsThen x2_kept visKept x2_keptAt visWriting) H → va_D A (mdW K q vweight vkind x2_rhymes vpurse vhas vwishes vwishMany vsightLeft vsightRight vsightHow vsights vpad vpadMany vact vwho vwhich vwhom vacts vplace vopenMany vended vspoken vheaviest vheaviestWeight vhad vbadAct vbadWhy vbrings vbringsThen x2_kept visKept x2_keptAt visWriting) → va_S A H0 H locs → lv_has ls 4 [(3, .int x2_l3), (0, .ref (q 0)), (1, .ref (q 3)), (2, .int p1)] → W p l e rmX5_passRow s m args below meth c H locs 0 0 Q (F0 m 2 ls []) := by
    intro fu
    induction fu with
    | zero => intro x2_l3 x2_kept x2_keptAt x2_rhymes H locs ls hw2; cases hw2
    | succ fu ih2 =>
      intro x2_l3 x2_kept x2_keptAt x2_rhymes H locs ls hw2 hP hD hS hl
      obtain ⟨o2_, hs2, hw2⟩ := wh_el hw2
      unfold s_X5_passRow_rhymes_2 at hs2
      dsimp only at hs2
      refine lv_iload_n hx hb dX5_passRow_2 rfl (lv_at hl 0 rfl) ?_
      refine lv_iload_n hx hb dX5_passRow_3 rfl (lv_at hl 3 rfl) ?_
      refine lv_icmp_ge (tgt := 23) hx hb dX5_passRow_4 (by decide) (fun c2 => ?_) (fun c2 => ?_)
      · rw [if_pos c2] at hs2
        obtain rfl := Option.some.inj hs2
        have e9 := Option.some.inj hw2
        rw [← e9] at hf
        exact post2 _ _ _ _ _ _ _ hf hP hD hS (lv_sub hl [0, 1, 2, 3] rfl)
      · rw [if_neg c2] at hs2
        refine lv_aload_n hx hb dX5_passRow_7 rfl (lv_at hl 2 rfl) ?_
        refine lv_iload_n hx hb dX5_passRow_8 rfl (lv_at hl 0 rfl) ?_
        refine lv_aload_n hx hb dX5_passRow_9 rfl (lv_at hl 1 rfl) ?_
        refine lv_aload_n hx hb dX5_passRow_10 rfl (lv_at hl 2 rfl) ?_
        refine lv_iload_n hx hb dX5_passRow_11 rfl (lv_at hl 0 rfl) ?_
        obtain ⟨v3, hs2⟩ := chk_el hs2
        refine va_iald (D := D) (f := x2_rhymes) hx hb hK hP 3 0 rfl rfl v3 dX5_passRow_12 ?_
        obtain ⟨o4, ho4, hs2⟩ := ob_el hs2
        refine kcw_i (D := D) (va_runV (As := [.int (x2_rhymes (x2_l3).toNatClampNeg)]) (rest := [.int x2_l3, .ref (q 3)]) ⟨hx, hb, hml, hown, hts⟩ ((k_X5_pass l D K q vweight vkind x2_rhymes vpurse vhas vwishes vwishMany vsightLeft vsightRight vsightHow vsights vpad vpadMany vact vwho vwhich vwhom vacts vplace vopenMany vended vspoken vheaviest vheaviestWeight vhad vbadAct vbadWhy vbrings vbringsThen x2_kept visKept x2_keptAt visWriting (x2_rhymes (x2_l3).toNatClampNeg) o4 ho4) H.size) (cwV 1 hts gX5_passRow_X5_pass rfl rfl rfl ⟨rfl, yd_X5_pass⟩ ⟨Nat.le_of_ble_eq_true rfl, Nat.le_of_ble_eq_true rfl⟩) (kPreV (ci := 5) (q0 := 0) hP rfl rfl hP hD hK hN) rfl rfl hl.1 rfl (lv_room (Nat.le_of_ble_eq_true rfl)) dX5_passRow_13 ⟨Nat.le_of_ble_eq_true rfl, Nat.le_of_ble_eq_true rfl⟩) hD hS hA (fun hzo4 H locs hP hD hS => ?_)
        have hP : va_P D vwCl (mdW K q vweight vkind x2_rhymes vpurse vhas vwishes vwishMany vsightLeft vsightRight vsightHow vsights vpad vpadMany vact vwho vwhich vwhom vacts vplace vopenMany vended vspoken vheaviest vheaviestWeight vhad vbadAct vbadWhy vbrings vbringsThen o4.2.1 visKept o4.2.2 visWriting) H := hP
        have hD : va_D A (mdW K q vweight vkind x2_rhymes vpurse vhas vwishes vwishMany vsightLeft vsightRight vsightHow vsights vpad vpadMany vact vwho vwhich vwhom vacts vplace vopenMany vended vspoken vheaviest vheaviestWeight vhad vbadAct vbadWhy vbrings vbringsThen o4.2.1 visKept o4.2.2 visWriting) := hD
        refine va_iast (D := D) (f := x2_rhymes) hx hb hK hP hD hS 3 0 rfl rfl v3 dX5_passRow_16 (fun H locs hP hD hS => ?_)
        have hP : va_P D vwCl (mdW K q vweight vkind (upd x2_rhymes (x2_l3).toNatClampNeg o4.1) vpurse vhas vwishes vwishMany vsightLeft vsightRight vsightHow vsights vpad vpadMany vact vwho vwhich vwhom vacts vplace vopenMany vended vspoken vheaviest vheaviestWeight vhad vbadAct vbadWhy vbrings vbringsThen o4.2.1 visKept o4.2.2 visWriting) H := hP
        have hD : va_D A (mdW K q vweight vkind (upd x2_rhymes (x2_l3).toNatClampNeg o4.1) vpurse vhas vwishes vwishMany vsightLeft vsightRight vsightHow vsights vpad vpadMany vact vwho vwhich vwhom vacts vplace vopenMany vended vspoken vheaviest vheaviestWeight vhad vbadAct vbadWhy vbrings vbringsThen o4.2.1 visKept o4.2.2 visWriting) := hD
        refine lv_iinc (v := (x2_l3 + 1)) (lv' := [(3, .int (x2_l3 + 1)), (0, .ref (q 0)), (1, .ref (q 3)), (2, .int p1)]) hx hb dX5_passRow_17 hl (k := 0) rfl (by rfl) (by decide) rfl (fun ls hl => ?_)
        refine lv_goto (tgt := 2) hx hb dX5_passRow_20 (by decide) ?_
        obtain rfl := Option.some.inj hs2
        exact ih2 _ _ _ _ _ _ _ hw2 hP hD hS (lv_sub hl [0, 1, 2, 3] rfl)
  exact lp2 5000 _ _ _ _ _ _ _ hr1 hP hD hS (lv_sub hl [0, 1, 2, 3] rfl)
def s_X5_passRow_purse_2 (visWriting : Int32) (p1 : Int32) (x : Int32 × (Nat → Int32) × Int32 × (Nat → Int32)) : Option ((Int32 × (Nat → Int32) × Int32 × (Nat → Int32)) ⊕ (Int32 × (Nat → Int32) × Int32 × (Nat → Int32))) := if p1 ≤ x.1 then (some (.inr (x.1, x.2.1, x.2.2.1, x.2.2.2))) else (chk x.1 4 (ob (f_X5_pass x.2.1 x.2.2.1 visWriting (x.2.2.2 (x.1).toNatClampNeg)) (fun o4 => some (.inl ((x.1 + 1), o4.2.1, o4.2.2, (upd x.2.2.2 (x.1).toNatClampNeg o4.1))))))
def f_X5_passRow_purse (vpurse : Nat → Int32) (vkept : Nat → Int32) (vkeptAt : Int32) (visWriting : Int32) (p1 : Int32) : Option ((Nat → Int32) × (Nat → Int32) × Int32) := ob (wh (s_X5_passRow_purse_2 visWriting p1) 5000 (0, vkept, vkeptAt, vpurse)) (fun r1 => some (r1.2.2.2, r1.2.1, r1.2.2.1))
set_option maxHeartbeats 4000000 in
set_option maxRecDepth 100000 in
theorem k_X5_passRow_purse (l : Launch) (D : va_G) (K : Nat → ClassId) (q : Nat → Nat) (vweight : Nat → Int32) (vkind : Nat → Int32) (vrhymes : Nat → Int32) (vpurse : Nat → Int32) (vhas : Nat → Int32) (vwishes : Nat → Int32) (vwishMany : Int32) (vsightLeft : Nat → Int32) (vsightRight : Nat → Int32) (vsightHow : Nat → Int32) (vsights : Int32) (vpad : Nat → Int32) (vpadMany : Int32) (vact : Nat → Int32) (vwho : Nat → Int32) (vwhich : Nat → Int32) (vwhom : Nat → Int32) (vacts : Int32) (vplace : Int32) (vopenMany : Int32) (vended : Int32) (vspoken : Int32) (vheaviest : Int32) (vheaviestWeight : Int32) (vhad : Nat → Int32) (vbadAct : Int32) (vbadWhy : Int32) (vbrings : Nat → Int64) (vbringsThen : Nat → Int64) (vkept : Nat → Int32) (visKept : Nat → Int32) (vkeptAt : Int32) (visWriting : Int32) (p1 : Int32) (out : (Nat → Int32) × (Nat → Int32) × Int32) (hf : f_X5_passRow_purse vpurse vkept vkeptAt visWriting p1 = some out) : kV l D K yX5_passRow wsX5_passRow rmX5_passRow [.ref (q 0), .ref (q 4), .int p1] (mdW K q vweight vkind vrhymes vpurse vhas vwishes vwishMany vsightLeft vsightRight vsightHow vsights vpad vpadMany vact vwho vwhich vwhom vacts vplace vopenMany vended vspoken vheaviest vheaviestWeight vhad vbadAct vbadWhy vbrings vbringsThen vkept visKept vkeptAt visWriting) (mdW K q vweight vkind vrhymes out.1 vhas vwishes vwishMany vsightLeft vsightRight vsightHow vsights vpad vpadMany vact vwho vwhich vwhom vacts vplace vopenMany vended vspoken vheaviest vheaviestWeight vhad vbadAct vbadWhy vbrings vbringsThen out.2.1 visKept out.2.2 visWriting) := by
  refine kV.of (cc := cX5_passRow) (maxL := 4) (by decide) rfl (Nat.le_of_ble_eq_true rfl) ?_
  intro p e s m args below meth c A H0 Q ls hx hb hml hown hts hK hN hA hP hD hS hl hret
  have hown : s.vm.findClass RX5 = some m.cls := hown
  have hl : lv_has ls 4 [(0, .ref (q 0)), (1, .ref (q 4)), (2, .int p1)] := hl
  generalize hH : H0 = H at hP ⊢
  have hS : va_S A H0 H [] := by rw [← hH]; exact hS
  clear hH
  unfold f_X5_passRow_purse at hf
  refine lv_iconst (v := 0) hx hb dX5_passRow_0 (by decide) ?_
  refine lv_istore_n (lv' := [(3, .int 0), (0, .ref (q 0)), (1, .ref (q 4)), (2, .int p1)]) hx hb dX5_passRow_1 rfl hl (by decide) rfl (fun ls hl => ?_)
  obtain ⟨r1, hr1, hf⟩ := ob_el hf
  have post2 : ∀ (e2_l3 : Int32) (e2_kept : Nat → Int32) (e2_keptAt : Int32) (e2_purse : Nat → Int32) (H : Heap) (locs : List Loc) (ls : Array Slot), (some (e2_purse, e2_kept, e2_keptAt)) = some out → va_P D vwCl (mdW K q vweight vkind vrhymes e2_purse vhas vwishes vwishMany vsightLeft vsightRight vsightHow vsights vpad vpadMany vact vwho vwhich vwhom vacts vplace vopenMany vended vspoken vheaviest vheaviestWeight vhad vbadAct vbadWhy vbrings vbringsThen e2_kept visKept e2_keptAt visWriting) H → va_D A (mdW K q vweight vkind vrhymes e2_purse vhas vwishes vwishMany vsightLeft vsightRight vsightHow vsights vpad vpadMany vact vwho vwhich vwhom vacts vplace vopenMany vended vspoken vheaviest vheaviestWeight vhad vbadAct vbadWhy vbrings vbringsThen e2_kept visKept e2_keptAt visWriting) → va_S A H0 H locs → lv_has ls 4 [(3, .int e2_l3), (0, .ref (q 0)), (1, .ref (q 4)), (2, .int p1)] → W p l e rmX5_passRow s m args below meth c H locs 0 0 Q (F0 m 23 ls []) := by
    intro e2_l3 e2_kept e2_keptAt e2_purse H locs ls hf hP hD hS hl
    obtain rfl := Option.some.inj hf
    exact hret rfl hP hD hS dX5_passRow_23
  have lp2 : ∀ (fu : Nat) (x2_l3 : Int32) (x2_kept : Nat → Int32) (x2_keptAt : Int32) (x2_purse : Nat → Int32) (H : Heap) (locs : List Loc) (ls : Array Slot), wh (s_X5_passRow_purse_2 visWriting p1) fu (x2_l3, x2_kept, x2_keptAt, x2_purse) = some r1 → va_P D vwCl (mdW K q vweight vkind vrhymes x2_purse vhas vwishes vwishMany vsightLeft vsightRight vsightHow vsights vpad vpadMany vact vwho vwhich vwhom vacts vplace vopenMany vended vspoken vheaviest vheaviestWeight vhad vbadAct vbadWhy vbrings vbringsThen x2_kept visKept x2_keptAt visWriting) H → va_D A (mdW K q vweight vkind vrhymes x2_purse vhas vwishes vwishMany vsightLeft vsightRight vsightHow vsights vpad vpadMany vact vwho vwhich vwhom vacts vplace vopenMany vended vspoken vheaviest vheaviestWeight vhad vbadAct vbadWhy vbrings vbringsThen x2_kept visKept x2_keptAt visWriting) → va_S A H0 H locs → lv_has ls 4 [(3, .int x2_l3), (0, .ref (q 0)), (1, .ref (q 4)), (2, .int p1)] → W p l e rmX5_passRow s m args below meth c H locs 0 0 Q (F0 m 2 ls []) := by
    intro fu
    induction fu with
    | zero => intro x2_l3 x2_kept x2_keptAt x2_purse H locs ls hw2; cases hw2
    | succ fu ih2 =>
      intro x2_l3 x2_kept x2_keptAt x2_purse H locs ls hw2 hP hD hS hl
      obtain ⟨o2_, hs2, hw2⟩ := wh_el hw2
      unfold s_X5_passRow_purse_2 at hs2
      dsimp only at hs2
      refine lv_iload_n hx hb dX5_passRow_2 rfl (lv_at hl 0 rfl) ?_
      refine lv_iload_n hx hb dX5_passRow_3 rfl (lv_at hl 3 rfl) ?_
      refine lv_icmp_ge (tgt := 23) hx hb dX5_passRow_4 (by decide) (fun c2 => ?_) (fun c2 => ?_)
      · rw [if_pos c2] at hs2
        obtain rfl := Option.some.inj hs2
        have e9 := Option.some.inj hw2
        rw [← e9] at hf
        exact post2 _ _ _ _ _ _ _ hf hP hD hS (lv_sub hl [0, 1, 2, 3] rfl)
      · rw [if_neg c2] at hs2
        refine lv_aload_n hx hb dX5_passRow_7 rfl (lv_at hl 2 rfl) ?_
        refine lv_iload_n hx hb dX5_passRow_8 rfl (lv_at hl 0 rfl) ?_
        refine lv_aload_n hx hb dX5_passRow_9 rfl (lv_at hl 1 rfl) ?_
        refine lv_aload_n hx hb dX5_passRow_10 rfl (lv_at hl 2 rfl) ?_
        refine lv_iload_n hx hb dX5_passRow_11 rfl (lv_at hl 0 rfl) ?_
        obtain ⟨v3, hs2⟩ := chk_el hs2
        refine va_iald (D := D) (f := x2_purse) hx hb hK hP 4 0 rfl rfl v3 dX5_passRow_12 ?_
        obtain ⟨o4, ho4, hs2⟩ := ob_el hs2
        refine kcw_i (D := D) (va_runV (As := [.int (x2_purse (x2_l3).toNatClampNeg)]) (rest := [.int x2_l3, .ref (q 4)]) ⟨hx, hb, hml, hown, hts⟩ ((k_X5_pass l D K q vweight vkind vrhymes x2_purse vhas vwishes vwishMany vsightLeft vsightRight vsightHow vsights vpad vpadMany vact vwho vwhich vwhom vacts vplace vopenMany vended vspoken vheaviest vheaviestWeight vhad vbadAct vbadWhy vbrings vbringsThen x2_kept visKept x2_keptAt visWriting (x2_purse (x2_l3).toNatClampNeg) o4 ho4) H.size) (cwV 1 hts gX5_passRow_X5_pass rfl rfl rfl ⟨rfl, yd_X5_pass⟩ ⟨Nat.le_of_ble_eq_true rfl, Nat.le_of_ble_eq_true rfl⟩) (kPreV (ci := 5) (q0 := 0) hP rfl rfl hP hD hK hN) rfl rfl hl.1 rfl (lv_room (Nat.le_of_ble_eq_true rfl)) dX5_passRow_13 ⟨Nat.le_of_ble_eq_true rfl, Nat.le_of_ble_eq_true rfl⟩) hD hS hA (fun hzo4 H locs hP hD hS => ?_)
        have hP : va_P D vwCl (mdW K q vweight vkind vrhymes x2_purse vhas vwishes vwishMany vsightLeft vsightRight vsightHow vsights vpad vpadMany vact vwho vwhich vwhom vacts vplace vopenMany vended vspoken vheaviest vheaviestWeight vhad vbadAct vbadWhy vbrings vbringsThen o4.2.1 visKept o4.2.2 visWriting) H := hP
        have hD : va_D A (mdW K q vweight vkind vrhymes x2_purse vhas vwishes vwishMany vsightLeft vsightRight vsightHow vsights vpad vpadMany vact vwho vwhich vwhom vacts vplace vopenMany vended vspoken vheaviest vheaviestWeight vhad vbadAct vbadWhy vbrings vbringsThen o4.2.1 visKept o4.2.2 visWriting) := hD
        refine va_iast (D := D) (f := x2_purse) hx hb hK hP hD hS 4 0 rfl rfl v3 dX5_passRow_16 (fun H locs hP hD hS => ?_)
        have hP : va_P D vwCl (mdW K q vweight vkind vrhymes (upd x2_purse (x2_l3).toNatClampNeg o4.1) vhas vwishes vwishMany vsightLeft vsightRight vsightHow vsights vpad vpadMany vact vwho vwhich vwhom vacts vplace vopenMany vended vspoken vheaviest vheaviestWeight vhad vbadAct vbadWhy vbrings vbringsThen o4.2.1 visKept o4.2.2 visWriting) H := hP
        have hD : va_D A (mdW K q vweight vkind vrhymes (upd x2_purse (x2_l3).toNatClampNeg o4.1) vhas vwishes vwishMany vsightLeft vsightRight vsightHow vsights vpad vpadMany vact vwho vwhich vwhom vacts vplace vopenMany vended vspoken vheaviest vheaviestWeight vhad vbadAct vbadWhy vbrings vbringsThen o4.2.1 visKept o4.2.2 visWriting) := hD
        refine lv_iinc (v := (x2_l3 + 1)) (lv' := [(3, .int (x2_l3 + 1)), (0, .ref (q 0)), (1, .ref (q 4)), (2, .int p1)]) hx hb dX5_passRow_17 hl (k := 0) rfl (by rfl) (by decide) rfl (fun ls hl => ?_)
        refine lv_goto (tgt := 2) hx hb dX5_passRow_20 (by decide) ?_
        obtain rfl := Option.some.inj hs2
        exact ih2 _ _ _ _ _ _ _ hw2 hP hD hS (lv_sub hl [0, 1, 2, 3] rfl)
  exact lp2 5000 _ _ _ _ _ _ _ hr1 hP hD hS (lv_sub hl [0, 1, 2, 3] rfl)
def s_X5_passRow_has_2 (visWriting : Int32) (p1 : Int32) (x : Int32 × (Nat → Int32) × (Nat → Int32) × Int32) : Option ((Int32 × (Nat → Int32) × (Nat → Int32) × Int32) ⊕ (Int32 × (Nat → Int32) × (Nat → Int32) × Int32)) := if p1 ≤ x.1 then (some (.inr (x.1, x.2.1, x.2.2.1, x.2.2.2))) else (chk x.1 4 (ob (f_X5_pass x.2.2.1 x.2.2.2 visWriting (x.2.1 (x.1).toNatClampNeg)) (fun o4 => some (.inl ((x.1 + 1), (upd x.2.1 (x.1).toNatClampNeg o4.1), o4.2.1, o4.2.2)))))
def f_X5_passRow_has (vhas : Nat → Int32) (vkept : Nat → Int32) (vkeptAt : Int32) (visWriting : Int32) (p1 : Int32) : Option ((Nat → Int32) × (Nat → Int32) × Int32) := ob (wh (s_X5_passRow_has_2 visWriting p1) 5000 (0, vhas, vkept, vkeptAt)) (fun r1 => some (r1.2.1, r1.2.2.1, r1.2.2.2))
set_option maxHeartbeats 4000000 in
set_option maxRecDepth 100000 in
theorem k_X5_passRow_has (l : Launch) (D : va_G) (K : Nat → ClassId) (q : Nat → Nat) (vweight : Nat → Int32) (vkind : Nat → Int32) (vrhymes : Nat → Int32) (vpurse : Nat → Int32) (vhas : Nat → Int32) (vwishes : Nat → Int32) (vwishMany : Int32) (vsightLeft : Nat → Int32) (vsightRight : Nat → Int32) (vsightHow : Nat → Int32) (vsights : Int32) (vpad : Nat → Int32) (vpadMany : Int32) (vact : Nat → Int32) (vwho : Nat → Int32) (vwhich : Nat → Int32) (vwhom : Nat → Int32) (vacts : Int32) (vplace : Int32) (vopenMany : Int32) (vended : Int32) (vspoken : Int32) (vheaviest : Int32) (vheaviestWeight : Int32) (vhad : Nat → Int32) (vbadAct : Int32) (vbadWhy : Int32) (vbrings : Nat → Int64) (vbringsThen : Nat → Int64) (vkept : Nat → Int32) (visKept : Nat → Int32) (vkeptAt : Int32) (visWriting : Int32) (p1 : Int32) (out : (Nat → Int32) × (Nat → Int32) × Int32) (hf : f_X5_passRow_has vhas vkept vkeptAt visWriting p1 = some out) : kV l D K yX5_passRow wsX5_passRow rmX5_passRow [.ref (q 0), .ref (q 5), .int p1] (mdW K q vweight vkind vrhymes vpurse vhas vwishes vwishMany vsightLeft vsightRight vsightHow vsights vpad vpadMany vact vwho vwhich vwhom vacts vplace vopenMany vended vspoken vheaviest vheaviestWeight vhad vbadAct vbadWhy vbrings vbringsThen vkept visKept vkeptAt visWriting) (mdW K q vweight vkind vrhymes vpurse out.1 vwishes vwishMany vsightLeft vsightRight vsightHow vsights vpad vpadMany vact vwho vwhich vwhom vacts vplace vopenMany vended vspoken vheaviest vheaviestWeight vhad vbadAct vbadWhy vbrings vbringsThen out.2.1 visKept out.2.2 visWriting) := by
  refine kV.of (cc := cX5_passRow) (maxL := 4) (by decide) rfl (Nat.le_of_ble_eq_true rfl) ?_
  intro p e s m args below meth c A H0 Q ls hx hb hml hown hts hK hN hA hP hD hS hl hret
  have hown : s.vm.findClass RX5 = some m.cls := hown
  have hl : lv_has ls 4 [(0, .ref (q 0)), (1, .ref (q 5)), (2, .int p1)] := hl
  generalize hH : H0 = H at hP ⊢
  have hS : va_S A H0 H [] := by rw [← hH]; exact hS
  clear hH
  unfold f_X5_passRow_has at hf
  refine lv_iconst (v := 0) hx hb dX5_passRow_0 (by decide) ?_
  refine lv_istore_n (lv' := [(3, .int 0), (0, .ref (q 0)), (1, .ref (q 5)), (2, .int p1)]) hx hb dX5_passRow_1 rfl hl (by decide) rfl (fun ls hl => ?_)
  obtain ⟨r1, hr1, hf⟩ := ob_el hf
  have post2 : ∀ (e2_l3 : Int32) (e2_has : Nat → Int32) (e2_kept : Nat → Int32) (e2_keptAt : Int32) (H : Heap) (locs : List Loc) (ls : Array Slot), (some (e2_has, e2_kept, e2_keptAt)) = some out → va_P D vwCl (mdW K q vweight vkind vrhymes vpurse e2_has vwishes vwishMany vsightLeft vsightRight vsightHow vsights vpad vpadMany vact vwho vwhich vwhom vacts vplace vopenMany vended vspoken vheaviest vheaviestWeight vhad vbadAct vbadWhy vbrings vbringsThen e2_kept visKept e2_keptAt visWriting) H → va_D A (mdW K q vweight vkind vrhymes vpurse e2_has vwishes vwishMany vsightLeft vsightRight vsightHow vsights vpad vpadMany vact vwho vwhich vwhom vacts vplace vopenMany vended vspoken vheaviest vheaviestWeight vhad vbadAct vbadWhy vbrings vbringsThen e2_kept visKept e2_keptAt visWriting) → va_S A H0 H locs → lv_has ls 4 [(3, .int e2_l3), (0, .ref (q 0)), (1, .ref (q 5)), (2, .int p1)] → W p l e rmX5_passRow s m args below meth c H locs 0 0 Q (F0 m 23 ls []) := by
    intro e2_l3 e2_has e2_kept e2_keptAt H locs ls hf hP hD hS hl
    obtain rfl := Option.some.inj hf
    exact hret rfl hP hD hS dX5_passRow_23
  have lp2 : ∀ (fu : Nat) (x2_l3 : Int32) (x2_has : Nat → Int32) (x2_kept : Nat → Int32) (x2_keptAt : Int32) (H : Heap) (locs : List Loc) (ls : Array Slot), wh (s_X5_passRow_has_2 visWriting p1) fu (x2_l3, x2_has, x2_kept, x2_keptAt) = some r1 → va_P D vwCl (mdW K q vweight vkind vrhymes vpurse x2_has vwishes vwishMany vsightLeft vsightRight vsightHow vsights vpad vpadMany vact vwho vwhich vwhom vacts vplace vopenMany vended vspoken vheaviest vheaviestWeight vhad vbadAct vbadWhy vbrings vbringsThen x2_kept visKept x2_keptAt visWriting) H → va_D A (mdW K q vweight vkind vrhymes vpurse x2_has vwishes vwishMany vsightLeft vsightRight vsightHow vsights vpad vpadMany vact vwho vwhich vwhom vacts vplace vopenMany vended vspoken vheaviest vheaviestWeight vhad vbadAct vbadWhy vbrings vbringsThen x2_kept visKept x2_keptAt visWriting) → va_S A H0 H locs → lv_has ls 4 [(3, .int x2_l3), (0, .ref (q 0)), (1, .ref (q 5)), (2, .int p1)] → W p l e rmX5_passRow s m args below meth c H locs 0 0 Q (F0 m 2 ls []) := by
    intro fu
    induction fu with
    | zero => intro x2_l3 x2_has x2_kept x2_keptAt H locs ls hw2; cases hw2
    | succ fu ih2 =>
      intro x2_l3 x2_has x2_kept x2_keptAt H locs ls hw2 hP hD hS hl
      obtain ⟨o2_, hs2, hw2⟩ := wh_el hw2
      unfold s_X5_passRow_has_2 at hs2
      dsimp only at hs2
      refine lv_iload_n hx hb dX5_passRow_2 rfl (lv_at hl 0 rfl) ?_
      refine lv_iload_n hx hb dX5_passRow_3 rfl (lv_at hl 3 rfl) ?_
      refine lv_icmp_ge (tgt := 23) hx hb dX5_passRow_4 (by decide) (fun c2 => ?_) (fun c2 => ?_)
      · rw [if_pos c2] at hs2
        obtain rfl := Option.some.inj hs2
        have e9 := Option.some.inj hw2
        rw [← e9] at hf
        exact post2 _ _ _ _ _ _ _ hf hP hD hS (lv_sub hl [0, 1, 2, 3] rfl)
      · rw [if_neg c2] at hs2
        refine lv_aload_n hx hb dX5_passRow_7 rfl (lv_at hl 2 rfl) ?_
        refine lv_iload_n hx hb dX5_passRow_8 rfl (lv_at hl 0 rfl) ?_
        refine lv_aload_n hx hb dX5_passRow_9 rfl (lv_at hl 1 rfl) ?_
        refine lv_aload_n hx hb dX5_passRow_10 rfl (lv_at hl 2 rfl) ?_
        refine lv_iload_n hx hb dX5_passRow_11 rfl (lv_at hl 0 rfl) ?_
        obtain ⟨v3, hs2⟩ := chk_el hs2
        refine va_iald (D := D) (f := x2_has) hx hb hK hP 5 0 rfl rfl v3 dX5_passRow_12 ?_
        obtain ⟨o4, ho4, hs2⟩ := ob_el hs2
        refine kcw_i (D := D) (va_runV (As := [.int (x2_has (x2_l3).toNatClampNeg)]) (rest := [.int x2_l3, .ref (q 5)]) ⟨hx, hb, hml, hown, hts⟩ ((k_X5_pass l D K q vweight vkind vrhymes vpurse x2_has vwishes vwishMany vsightLeft vsightRight vsightHow vsights vpad vpadMany vact vwho vwhich vwhom vacts vplace vopenMany vended vspoken vheaviest vheaviestWeight vhad vbadAct vbadWhy vbrings vbringsThen x2_kept visKept x2_keptAt visWriting (x2_has (x2_l3).toNatClampNeg) o4 ho4) H.size) (cwV 1 hts gX5_passRow_X5_pass rfl rfl rfl ⟨rfl, yd_X5_pass⟩ ⟨Nat.le_of_ble_eq_true rfl, Nat.le_of_ble_eq_true rfl⟩) (kPreV (ci := 5) (q0 := 0) hP rfl rfl hP hD hK hN) rfl rfl hl.1 rfl (lv_room (Nat.le_of_ble_eq_true rfl)) dX5_passRow_13 ⟨Nat.le_of_ble_eq_true rfl, Nat.le_of_ble_eq_true rfl⟩) hD hS hA (fun hzo4 H locs hP hD hS => ?_)
        have hP : va_P D vwCl (mdW K q vweight vkind vrhymes vpurse x2_has vwishes vwishMany vsightLeft vsightRight vsightHow vsights vpad vpadMany vact vwho vwhich vwhom vacts vplace vopenMany vended vspoken vheaviest vheaviestWeight vhad vbadAct vbadWhy vbrings vbringsThen o4.2.1 visKept o4.2.2 visWriting) H := hP
        have hD : va_D A (mdW K q vweight vkind vrhymes vpurse x2_has vwishes vwishMany vsightLeft vsightRight vsightHow vsights vpad vpadMany vact vwho vwhich vwhom vacts vplace vopenMany vended vspoken vheaviest vheaviestWeight vhad vbadAct vbadWhy vbrings vbringsThen o4.2.1 visKept o4.2.2 visWriting) := hD
        refine va_iast (D := D) (f := x2_has) hx hb hK hP hD hS 5 0 rfl rfl v3 dX5_passRow_16 (fun H locs hP hD hS => ?_)
        have hP : va_P D vwCl (mdW K q vweight vkind vrhymes vpurse (upd x2_has (x2_l3).toNatClampNeg o4.1) vwishes vwishMany vsightLeft vsightRight vsightHow vsights vpad vpadMany vact vwho vwhich vwhom vacts vplace vopenMany vended vspoken vheaviest vheaviestWeight vhad vbadAct vbadWhy vbrings vbringsThen o4.2.1 visKept o4.2.2 visWriting) H := hP
        have hD : va_D A (mdW K q vweight vkind vrhymes vpurse (upd x2_has (x2_l3).toNatClampNeg o4.1) vwishes vwishMany vsightLeft vsightRight vsightHow vsights vpad vpadMany vact vwho vwhich vwhom vacts vplace vopenMany vended vspoken vheaviest vheaviestWeight vhad vbadAct vbadWhy vbrings vbringsThen o4.2.1 visKept o4.2.2 visWriting) := hD
        refine lv_iinc (v := (x2_l3 + 1)) (lv' := [(3, .int (x2_l3 + 1)), (0, .ref (q 0)), (1, .ref (q 5)), (2, .int p1)]) hx hb dX5_passRow_17 hl (k := 0) rfl (by rfl) (by decide) rfl (fun ls hl => ?_)
        refine lv_goto (tgt := 2) hx hb dX5_passRow_20 (by decide) ?_
        obtain rfl := Option.some.inj hs2
        exact ih2 _ _ _ _ _ _ _ hw2 hP hD hS (lv_sub hl [0, 1, 2, 3] rfl)
  exact lp2 5000 _ _ _ _ _ _ _ hr1 hP hD hS (lv_sub hl [0, 1, 2, 3] rfl)
def s_X5_passRow_wishes_2 (visWriting : Int32) (p1 : Int32) (x : Int32 × (Nat → Int32) × Int32 × (Nat → Int32)) : Option ((Int32 × (Nat → Int32) × Int32 × (Nat → Int32)) ⊕ (Int32 × (Nat → Int32) × Int32 × (Nat → Int32))) := if p1 ≤ x.1 then (some (.inr (x.1, x.2.1, x.2.2.1, x.2.2.2))) else (chk x.1 8 (ob (f_X5_pass x.2.1 x.2.2.1 visWriting (x.2.2.2 (x.1).toNatClampNeg)) (fun o4 => some (.inl ((x.1 + 1), o4.2.1, o4.2.2, (upd x.2.2.2 (x.1).toNatClampNeg o4.1))))))
def f_X5_passRow_wishes (vwishes : Nat → Int32) (vkept : Nat → Int32) (vkeptAt : Int32) (visWriting : Int32) (p1 : Int32) : Option ((Nat → Int32) × (Nat → Int32) × Int32) := ob (wh (s_X5_passRow_wishes_2 visWriting p1) 5000 (0, vkept, vkeptAt, vwishes)) (fun r1 => some (r1.2.2.2, r1.2.1, r1.2.2.1))
set_option maxHeartbeats 4000000 in
set_option maxRecDepth 100000 in
theorem k_X5_passRow_wishes (l : Launch) (D : va_G) (K : Nat → ClassId) (q : Nat → Nat) (vweight : Nat → Int32) (vkind : Nat → Int32) (vrhymes : Nat → Int32) (vpurse : Nat → Int32) (vhas : Nat → Int32) (vwishes : Nat → Int32) (vwishMany : Int32) (vsightLeft : Nat → Int32) (vsightRight : Nat → Int32) (vsightHow : Nat → Int32) (vsights : Int32) (vpad : Nat → Int32) (vpadMany : Int32) (vact : Nat → Int32) (vwho : Nat → Int32) (vwhich : Nat → Int32) (vwhom : Nat → Int32) (vacts : Int32) (vplace : Int32) (vopenMany : Int32) (vended : Int32) (vspoken : Int32) (vheaviest : Int32) (vheaviestWeight : Int32) (vhad : Nat → Int32) (vbadAct : Int32) (vbadWhy : Int32) (vbrings : Nat → Int64) (vbringsThen : Nat → Int64) (vkept : Nat → Int32) (visKept : Nat → Int32) (vkeptAt : Int32) (visWriting : Int32) (p1 : Int32) (out : (Nat → Int32) × (Nat → Int32) × Int32) (hf : f_X5_passRow_wishes vwishes vkept vkeptAt visWriting p1 = some out) : kV l D K yX5_passRow wsX5_passRow rmX5_passRow [.ref (q 0), .ref (q 6), .int p1] (mdW K q vweight vkind vrhymes vpurse vhas vwishes vwishMany vsightLeft vsightRight vsightHow vsights vpad vpadMany vact vwho vwhich vwhom vacts vplace vopenMany vended vspoken vheaviest vheaviestWeight vhad vbadAct vbadWhy vbrings vbringsThen vkept visKept vkeptAt visWriting) (mdW K q vweight vkind vrhymes vpurse vhas out.1 vwishMany vsightLeft vsightRight vsightHow vsights vpad vpadMany vact vwho vwhich vwhom vacts vplace vopenMany vended vspoken vheaviest vheaviestWeight vhad vbadAct vbadWhy vbrings vbringsThen out.2.1 visKept out.2.2 visWriting) := by
  refine kV.of (cc := cX5_passRow) (maxL := 4) (by decide) rfl (Nat.le_of_ble_eq_true rfl) ?_
  intro p e s m args below meth c A H0 Q ls hx hb hml hown hts hK hN hA hP hD hS hl hret
  have hown : s.vm.findClass RX5 = some m.cls := hown
  have hl : lv_has ls 4 [(0, .ref (q 0)), (1, .ref (q 6)), (2, .int p1)] := hl
  generalize hH : H0 = H at hP ⊢
  have hS : va_S A H0 H [] := by rw [← hH]; exact hS
  clear hH
  unfold f_X5_passRow_wishes at hf
  refine lv_iconst (v := 0) hx hb dX5_passRow_0 (by decide) ?_
  refine lv_istore_n (lv' := [(3, .int 0), (0, .ref (q 0)), (1, .ref (q 6)), (2, .int p1)]) hx hb dX5_passRow_1 rfl hl (by decide) rfl (fun ls hl => ?_)
  obtain ⟨r1, hr1, hf⟩ := ob_el hf
  have post2 : ∀ (e2_l3 : Int32) (e2_kept : Nat → Int32) (e2_keptAt : Int32) (e2_wishes : Nat → Int32) (H : Heap) (locs : List Loc) (ls : Array Slot), (some (e2_wishes, e2_kept, e2_keptAt)) = some out → va_P D vwCl (mdW K q vweight vkind vrhymes vpurse vhas e2_wishes vwishMany vsightLeft vsightRight vsightHow vsights vpad vpadMany vact vwho vwhich vwhom vacts vplace vopenMany vended vspoken vheaviest vheaviestWeight vhad vbadAct vbadWhy vbrings vbringsThen e2_kept visKept e2_keptAt visWriting) H → va_D A (mdW K q vweight vkind vrhymes vpurse vhas e2_wishes vwishMany vsightLeft vsightRight vsightHow vsights vpad vpadMany vact vwho vwhich vwhom vacts vplace vopenMany vended vspoken vheaviest vheaviestWeight vhad vbadAct vbadWhy vbrings vbringsThen e2_kept visKept e2_keptAt visWriting) → va_S A H0 H locs → lv_has ls 4 [(3, .int e2_l3), (0, .ref (q 0)), (1, .ref (q 6)), (2, .int p1)] → W p l e rmX5_passRow s m args below meth c H locs 0 0 Q (F0 m 23 ls []) := by
    intro e2_l3 e2_kept e2_keptAt e2_wishes H locs ls hf hP hD hS hl
    obtain rfl := Option.some.inj hf
    exact hret rfl hP hD hS dX5_passRow_23
  have lp2 : ∀ (fu : Nat) (x2_l3 : Int32) (x2_kept : Nat → Int32) (x2_keptAt : Int32) (x2_wishes : Nat → Int32) (H : Heap) (locs : List Loc) (ls : Array Slot), wh (s_X5_passRow_wishes_2 visWriting p1) fu (x2_l3, x2_kept, x2_keptAt, x2_wishes) = some r1 → va_P D vwCl (mdW K q vweight vkind vrhymes vpurse vhas x2_wishes vwishMany vsightLeft vsightRight vsightHow vsights vpad vpadMany vact vwho vwhich vwhom vacts vplace vopenMany vended vspoken vheaviest vheaviestWeight vhad vbadAct vbadWhy vbrings vbringsThen x2_kept visKept x2_keptAt visWriting) H → va_D A (mdW K q vweight vkind vrhymes vpurse vhas x2_wishes vwishMany vsightLeft vsightRight vsightHow vsights vpad vpadMany vact vwho vwhich vwhom vacts vplace vopenMany vended vspoken vheaviest vheaviestWeight vhad vbadAct vbadWhy vbrings vbringsThen x2_kept visKept x2_keptAt visWriting) → va_S A H0 H locs → lv_has ls 4 [(3, .int x2_l3), (0, .ref (q 0)), (1, .ref (q 6)), (2, .int p1)] → W p l e rmX5_passRow s m args below meth c H locs 0 0 Q (F0 m 2 ls []) := by
    intro fu
    induction fu with
    | zero => intro x2_l3 x2_kept x2_keptAt x2_wishes H locs ls hw2; cases hw2
    | succ fu ih2 =>
      intro x2_l3 x2_kept x2_keptAt x2_wishes H locs ls hw2 hP hD hS hl
      obtain ⟨o2_, hs2, hw2⟩ := wh_el hw2
      unfold s_X5_passRow_wishes_2 at hs2
      dsimp only at hs2
      refine lv_iload_n hx hb dX5_passRow_2 rfl (lv_at hl 0 rfl) ?_
      refine lv_iload_n hx hb dX5_passRow_3 rfl (lv_at hl 3 rfl) ?_
      refine lv_icmp_ge (tgt := 23) hx hb dX5_passRow_4 (by decide) (fun c2 => ?_) (fun c2 => ?_)
      · rw [if_pos c2] at hs2
        obtain rfl := Option.some.inj hs2
        have e9 := Option.some.inj hw2
        rw [← e9] at hf
        exact post2 _ _ _ _ _ _ _ hf hP hD hS (lv_sub hl [0, 1, 2, 3] rfl)
      · rw [if_neg c2] at hs2
        refine lv_aload_n hx hb dX5_passRow_7 rfl (lv_at hl 2 rfl) ?_
        refine lv_iload_n hx hb dX5_passRow_8 rfl (lv_at hl 0 rfl) ?_
        refine lv_aload_n hx hb dX5_passRow_9 rfl (lv_at hl 1 rfl) ?_
        refine lv_aload_n hx hb dX5_passRow_10 rfl (lv_at hl 2 rfl) ?_
        refine lv_iload_n hx hb dX5_passRow_11 rfl (lv_at hl 0 rfl) ?_
        obtain ⟨v3, hs2⟩ := chk_el hs2
        refine va_iald (D := D) (f := x2_wishes) hx hb hK hP 6 0 rfl rfl v3 dX5_passRow_12 ?_
        obtain ⟨o4, ho4, hs2⟩ := ob_el hs2
        refine kcw_i (D := D) (va_runV (As := [.int (x2_wishes (x2_l3).toNatClampNeg)]) (rest := [.int x2_l3, .ref (q 6)]) ⟨hx, hb, hml, hown, hts⟩ ((k_X5_pass l D K q vweight vkind vrhymes vpurse vhas x2_wishes vwishMany vsightLeft vsightRight vsightHow vsights vpad vpadMany vact vwho vwhich vwhom vacts vplace vopenMany vended vspoken vheaviest vheaviestWeight vhad vbadAct vbadWhy vbrings vbringsThen x2_kept visKept x2_keptAt visWriting (x2_wishes (x2_l3).toNatClampNeg) o4 ho4) H.size) (cwV 1 hts gX5_passRow_X5_pass rfl rfl rfl ⟨rfl, yd_X5_pass⟩ ⟨Nat.le_of_ble_eq_true rfl, Nat.le_of_ble_eq_true rfl⟩) (kPreV (ci := 5) (q0 := 0) hP rfl rfl hP hD hK hN) rfl rfl hl.1 rfl (lv_room (Nat.le_of_ble_eq_true rfl)) dX5_passRow_13 ⟨Nat.le_of_ble_eq_true rfl, Nat.le_of_ble_eq_true rfl⟩) hD hS hA (fun hzo4 H locs hP hD hS => ?_)
        have hP : va_P D vwCl (mdW K q vweight vkind vrhymes vpurse vhas x2_wishes vwishMany vsightLeft vsightRight vsightHow vsights vpad vpadMany vact vwho vwhich vwhom vacts vplace vopenMany vended vspoken vheaviest vheaviestWeight vhad vbadAct vbadWhy vbrings vbringsThen o4.2.1 visKept o4.2.2 visWriting) H := hP
        have hD : va_D A (mdW K q vweight vkind vrhymes vpurse vhas x2_wishes vwishMany vsightLeft vsightRight vsightHow vsights vpad vpadMany vact vwho vwhich vwhom vacts vplace vopenMany vended vspoken vheaviest vheaviestWeight vhad vbadAct vbadWhy vbrings vbringsThen o4.2.1 visKept o4.2.2 visWriting) := hD
        refine va_iast (D := D) (f := x2_wishes) hx hb hK hP hD hS 6 0 rfl rfl v3 dX5_passRow_16 (fun H locs hP hD hS => ?_)
        have hP : va_P D vwCl (mdW K q vweight vkind vrhymes vpurse vhas (upd x2_wishes (x2_l3).toNatClampNeg o4.1) vwishMany vsightLeft vsightRight vsightHow vsights vpad vpadMany vact vwho vwhich vwhom vacts vplace vopenMany vended vspoken vheaviest vheaviestWeight vhad vbadAct vbadWhy vbrings vbringsThen o4.2.1 visKept o4.2.2 visWriting) H := hP
        have hD : va_D A (mdW K q vweight vkind vrhymes vpurse vhas (upd x2_wishes (x2_l3).toNatClampNeg o4.1) vwishMany vsightLeft vsightRight vsightHow vsights vpad vpadMany vact vwho vwhich vwhom vacts vplace vopenMany vended vspoken vheaviest vheaviestWeight vhad vbadAct vbadWhy vbrings vbringsThen o4.2.1 visKept o4.2.2 visWriting) := hD
        refine lv_iinc (v := (x2_l3 + 1)) (lv' := [(3, .int (x2_l3 + 1)), (0, .ref (q 0)), (1, .ref (q 6)), (2, .int p1)]) hx hb dX5_passRow_17 hl (k := 0) rfl (by rfl) (by decide) rfl (fun ls hl => ?_)
        refine lv_goto (tgt := 2) hx hb dX5_passRow_20 (by decide) ?_
        obtain rfl := Option.some.inj hs2
        exact ih2 _ _ _ _ _ _ _ hw2 hP hD hS (lv_sub hl [0, 1, 2, 3] rfl)
  exact lp2 5000 _ _ _ _ _ _ _ hr1 hP hD hS (lv_sub hl [0, 1, 2, 3] rfl)
def s_X5_passRow_sightLeft_2 (visWriting : Int32) (p1 : Int32) (x : Int32 × (Nat → Int32) × Int32 × (Nat → Int32)) : Option ((Int32 × (Nat → Int32) × Int32 × (Nat → Int32)) ⊕ (Int32 × (Nat → Int32) × Int32 × (Nat → Int32))) := if p1 ≤ x.1 then (some (.inr (x.1, x.2.1, x.2.2.1, x.2.2.2))) else (chk x.1 6 (ob (f_X5_pass x.2.1 x.2.2.1 visWriting (x.2.2.2 (x.1).toNatClampNeg)) (fun o4 => some (.inl ((x.1 + 1), o4.2.1, o4.2.2, (upd x.2.2.2 (x.1).toNatClampNeg o4.1))))))
def f_X5_passRow_sightLeft (vsightLeft : Nat → Int32) (vkept : Nat → Int32) (vkeptAt : Int32) (visWriting : Int32) (p1 : Int32) : Option ((Nat → Int32) × (Nat → Int32) × Int32) := ob (wh (s_X5_passRow_sightLeft_2 visWriting p1) 5000 (0, vkept, vkeptAt, vsightLeft)) (fun r1 => some (r1.2.2.2, r1.2.1, r1.2.2.1))
set_option maxHeartbeats 4000000 in
set_option maxRecDepth 100000 in
theorem k_X5_passRow_sightLeft (l : Launch) (D : va_G) (K : Nat → ClassId) (q : Nat → Nat) (vweight : Nat → Int32) (vkind : Nat → Int32) (vrhymes : Nat → Int32) (vpurse : Nat → Int32) (vhas : Nat → Int32) (vwishes : Nat → Int32) (vwishMany : Int32) (vsightLeft : Nat → Int32) (vsightRight : Nat → Int32) (vsightHow : Nat → Int32) (vsights : Int32) (vpad : Nat → Int32) (vpadMany : Int32) (vact : Nat → Int32) (vwho : Nat → Int32) (vwhich : Nat → Int32) (vwhom : Nat → Int32) (vacts : Int32) (vplace : Int32) (vopenMany : Int32) (vended : Int32) (vspoken : Int32) (vheaviest : Int32) (vheaviestWeight : Int32) (vhad : Nat → Int32) (vbadAct : Int32) (vbadWhy : Int32) (vbrings : Nat → Int64) (vbringsThen : Nat → Int64) (vkept : Nat → Int32) (visKept : Nat → Int32) (vkeptAt : Int32) (visWriting : Int32) (p1 : Int32) (out : (Nat → Int32) × (Nat → Int32) × Int32) (hf : f_X5_passRow_sightLeft vsightLeft vkept vkeptAt visWriting p1 = some out) : kV l D K yX5_passRow wsX5_passRow rmX5_passRow [.ref (q 0), .ref (q 7), .int p1] (mdW K q vweight vkind vrhymes vpurse vhas vwishes vwishMany vsightLeft vsightRight vsightHow vsights vpad vpadMany vact vwho vwhich vwhom vacts vplace vopenMany vended vspoken vheaviest vheaviestWeight vhad vbadAct vbadWhy vbrings vbringsThen vkept visKept vkeptAt visWriting) (mdW K q vweight vkind vrhymes vpurse vhas vwishes vwishMany out.1 vsightRight vsightHow vsights vpad vpadMany vact vwho vwhich vwhom vacts vplace vopenMany vended vspoken vheaviest vheaviestWeight vhad vbadAct vbadWhy vbrings vbringsThen out.2.1 visKept out.2.2 visWriting) := by
  refine kV.of (cc := cX5_passRow) (maxL := 4) (by decide) rfl (Nat.le_of_ble_eq_true rfl) ?_
  intro p e s m args below meth c A H0 Q ls hx hb hml hown hts hK hN hA hP hD hS hl hret
  have hown : s.vm.findClass RX5 = some m.cls := hown
  have hl : lv_has ls 4 [(0, .ref (q 0)), (1, .ref (q 7)), (2, .int p1)] := hl
  generalize hH : H0 = H at hP ⊢
  have hS : va_S A H0 H [] := by rw [← hH]; exact hS
  clear hH
  unfold f_X5_passRow_sightLeft at hf
  refine lv_iconst (v := 0) hx hb dX5_passRow_0 (by decide) ?_
  refine lv_istore_n (lv' := [(3, .int 0), (0, .ref (q 0)), (1, .ref (q 7)), (2, .int p1)]) hx hb dX5_passRow_1 rfl hl (by decide) rfl (fun ls hl => ?_)
  obtain ⟨r1, hr1, hf⟩ := ob_el hf
  have post2 : ∀ (e2_l3 : Int32) (e2_kept : Nat → Int32) (e2_keptAt : Int32) (e2_sightLeft : Nat → Int32) (H : Heap) (locs : List Loc) (ls : Array Slot), (some (e2_sightLeft, e2_kept, e2_keptAt)) = some out → va_P D vwCl (mdW K q vweight vkind vrhymes vpurse vhas vwishes vwishMany e2_sightLeft vsightRight vsightHow vsights vpad vpadMany vact vwho vwhich vwhom vacts vplace vopenMany vended vspoken vheaviest vheaviestWeight vhad vbadAct vbadWhy vbrings vbringsThen e2_kept visKept e2_keptAt visWriting) H → va_D A (mdW K q vweight vkind vrhymes vpurse vhas vwishes vwishMany e2_sightLeft vsightRight vsightHow vsights vpad vpadMany vact vwho vwhich vwhom vacts vplace vopenMany vended vspoken vheaviest vheaviestWeight vhad vbadAct vbadWhy vbrings vbringsThen e2_kept visKept e2_keptAt visWriting) → va_S A H0 H locs → lv_has ls 4 [(3, .int e2_l3), (0, .ref (q 0)), (1, .ref (q 7)), (2, .int p1)] → W p l e rmX5_passRow s m args below meth c H locs 0 0 Q (F0 m 23 ls []) := by
    intro e2_l3 e2_kept e2_keptAt e2_sightLeft H locs ls hf hP hD hS hl
    obtain rfl := Option.some.inj hf
    exact hret rfl hP hD hS dX5_passRow_23
  have lp2 : ∀ (fu : Nat) (x2_l3 : Int32) (x2_kept : Nat → Int32) (x2_keptAt : Int32) (x2_sightLeft : Nat → Int32) (H : Heap) (locs : List Loc) (ls : Array Slot), wh (s_X5_passRow_sightLeft_2 visWriting p1) fu (x2_l3, x2_kept, x2_keptAt, x2_sightLeft) = some r1 → va_P D vwCl (mdW K q vweight vkind vrhymes vpurse vhas vwishes vwishMany x2_sightLeft vsightRight vsightHow vsights vpad vpadMany vact vwho vwhich vwhom vacts vplace vopenMany vended vspoken vheaviest vheaviestWeight vhad vbadAct vbadWhy vbrings vbringsThen x2_kept visKept x2_keptAt visWriting) H → va_D A (mdW K q vweight vkind vrhymes vpurse vhas vwishes vwishMany x2_sightLeft vsightRight vsightHow vsights vpad vpadMany vact vwho vwhich vwhom vacts vplace vopenMany vended vspoken vheaviest vheaviestWeight vhad vbadAct vbadWhy vbrings vbringsThen x2_kept visKept x2_keptAt visWriting) → va_S A H0 H locs → lv_has ls 4 [(3, .int x2_l3), (0, .ref (q 0)), (1, .ref (q 7)), (2, .int p1)] → W p l e rmX5_passRow s m args below meth c H locs 0 0 Q (F0 m 2 ls []) := by
    intro fu
    induction fu with
    | zero => intro x2_l3 x2_kept x2_keptAt x2_sightLeft H locs ls hw2; cases hw2
    | succ fu ih2 =>
      intro x2_l3 x2_kept x2_keptAt x2_sightLeft H locs ls hw2 hP hD hS hl
      obtain ⟨o2_, hs2, hw2⟩ := wh_el hw2
      unfold s_X5_passRow_sightLeft_2 at hs2
      dsimp only at hs2
      refine lv_iload_n hx hb dX5_passRow_2 rfl (lv_at hl 0 rfl) ?_
      refine lv_iload_n hx hb dX5_passRow_3 rfl (lv_at hl 3 rfl) ?_
      refine lv_icmp_ge (tgt := 23) hx hb dX5_passRow_4 (by decide) (fun c2 => ?_) (fun c2 => ?_)
      · rw [if_pos c2] at hs2
        obtain rfl := Option.some.inj hs2
        have e9 := Option.some.inj hw2
        rw [← e9] at hf
        exact post2 _ _ _ _ _ _ _ hf hP hD hS (lv_sub hl [0, 1, 2, 3] rfl)
      · rw [if_neg c2] at hs2
        refine lv_aload_n hx hb dX5_passRow_7 rfl (lv_at hl 2 rfl) ?_
        refine lv_iload_n hx hb dX5_passRow_8 rfl (lv_at hl 0 rfl) ?_
        refine lv_aload_n hx hb dX5_passRow_9 rfl (lv_at hl 1 rfl) ?_
        refine lv_aload_n hx hb dX5_passRow_10 rfl (lv_at hl 2 rfl) ?_
        refine lv_iload_n hx hb dX5_passRow_11 rfl (lv_at hl 0 rfl) ?_
        obtain ⟨v3, hs2⟩ := chk_el hs2
        refine va_iald (D := D) (f := x2_sightLeft) hx hb hK hP 7 0 rfl rfl v3 dX5_passRow_12 ?_
        obtain ⟨o4, ho4, hs2⟩ := ob_el hs2
        refine kcw_i (D := D) (va_runV (As := [.int (x2_sightLeft (x2_l3).toNatClampNeg)]) (rest := [.int x2_l3, .ref (q 7)]) ⟨hx, hb, hml, hown, hts⟩ ((k_X5_pass l D K q vweight vkind vrhymes vpurse vhas vwishes vwishMany x2_sightLeft vsightRight vsightHow vsights vpad vpadMany vact vwho vwhich vwhom vacts vplace vopenMany vended vspoken vheaviest vheaviestWeight vhad vbadAct vbadWhy vbrings vbringsThen x2_kept visKept x2_keptAt visWriting (x2_sightLeft (x2_l3).toNatClampNeg) o4 ho4) H.size) (cwV 1 hts gX5_passRow_X5_pass rfl rfl rfl ⟨rfl, yd_X5_pass⟩ ⟨Nat.le_of_ble_eq_true rfl, Nat.le_of_ble_eq_true rfl⟩) (kPreV (ci := 5) (q0 := 0) hP rfl rfl hP hD hK hN) rfl rfl hl.1 rfl (lv_room (Nat.le_of_ble_eq_true rfl)) dX5_passRow_13 ⟨Nat.le_of_ble_eq_true rfl, Nat.le_of_ble_eq_true rfl⟩) hD hS hA (fun hzo4 H locs hP hD hS => ?_)
        have hP : va_P D vwCl (mdW K q vweight vkind vrhymes vpurse vhas vwishes vwishMany x2_sightLeft vsightRight vsightHow vsights vpad vpadMany vact vwho vwhich vwhom vacts vplace vopenMany vended vspoken vheaviest vheaviestWeight vhad vbadAct vbadWhy vbrings vbringsThen o4.2.1 visKept o4.2.2 visWriting) H := hP
        have hD : va_D A (mdW K q vweight vkind vrhymes vpurse vhas vwishes vwishMany x2_sightLeft vsightRight vsightHow vsights vpad vpadMany vact vwho vwhich vwhom vacts vplace vopenMany vended vspoken vheaviest vheaviestWeight vhad vbadAct vbadWhy vbrings vbringsThen o4.2.1 visKept o4.2.2 visWriting) := hD
        refine va_iast (D := D) (f := x2_sightLeft) hx hb hK hP hD hS 7 0 rfl rfl v3 dX5_passRow_16 (fun H locs hP hD hS => ?_)
        have hP : va_P D vwCl (mdW K q vweight vkind vrhymes vpurse vhas vwishes vwishMany (upd x2_sightLeft (x2_l3).toNatClampNeg o4.1) vsightRight vsightHow vsights vpad vpadMany vact vwho vwhich vwhom vacts vplace vopenMany vended vspoken vheaviest vheaviestWeight vhad vbadAct vbadWhy vbrings vbringsThen o4.2.1 visKept o4.2.2 visWriting) H := hP
        have hD : va_D A (mdW K q vweight vkind vrhymes vpurse vhas vwishes vwishMany (upd x2_sightLeft (x2_l3).toNatClampNeg o4.1) vsightRight vsightHow vsights vpad vpadMany vact vwho vwhich vwhom vacts vplace vopenMany vended vspoken vheaviest vheaviestWeight vhad vbadAct vbadWhy vbrings vbringsThen o4.2.1 visKept o4.2.2 visWriting) := hD
        refine lv_iinc (v := (x2_l3 + 1)) (lv' := [(3, .int (x2_l3 + 1)), (0, .ref (q 0)), (1, .ref (q 7)), (2, .int p1)]) hx hb dX5_passRow_17 hl (k := 0) rfl (by rfl) (by decide) rfl (fun ls hl => ?_)
        refine lv_goto (tgt := 2) hx hb dX5_passRow_20 (by decide) ?_
        obtain rfl := Option.some.inj hs2
        exact ih2 _ _ _ _ _ _ _ hw2 hP hD hS (lv_sub hl [0, 1, 2, 3] rfl)
  exact lp2 5000 _ _ _ _ _ _ _ hr1 hP hD hS (lv_sub hl [0, 1, 2, 3] rfl)
def s_X5_passRow_sightRight_2 (visWriting : Int32) (p1 : Int32) (x : Int32 × (Nat → Int32) × Int32 × (Nat → Int32)) : Option ((Int32 × (Nat → Int32) × Int32 × (Nat → Int32)) ⊕ (Int32 × (Nat → Int32) × Int32 × (Nat → Int32))) := if p1 ≤ x.1 then (some (.inr (x.1, x.2.1, x.2.2.1, x.2.2.2))) else (chk x.1 6 (ob (f_X5_pass x.2.1 x.2.2.1 visWriting (x.2.2.2 (x.1).toNatClampNeg)) (fun o4 => some (.inl ((x.1 + 1), o4.2.1, o4.2.2, (upd x.2.2.2 (x.1).toNatClampNeg o4.1))))))
def f_X5_passRow_sightRight (vsightRight : Nat → Int32) (vkept : Nat → Int32) (vkeptAt : Int32) (visWriting : Int32) (p1 : Int32) : Option ((Nat → Int32) × (Nat → Int32) × Int32) := ob (wh (s_X5_passRow_sightRight_2 visWriting p1) 5000 (0, vkept, vkeptAt, vsightRight)) (fun r1 => some (r1.2.2.2, r1.2.1, r1.2.2.1))
set_option maxHeartbeats 4000000 in
set_option maxRecDepth 100000 in
theorem k_X5_passRow_sightRight (l : Launch) (D : va_G) (K : Nat → ClassId) (q : Nat → Nat) (vweight : Nat → Int32) (vkind : Nat → Int32) (vrhymes : Nat → Int32) (vpurse : Nat → Int32) (vhas : Nat → Int32) (vwishes : Nat → Int32) (vwishMany : Int32) (vsightLeft : Nat → Int32) (vsightRight : Nat → Int32) (vsightHow : Nat → Int32) (vsights : Int32) (vpad : Nat → Int32) (vpadMany : Int32) (vact : Nat → Int32) (vwho : Nat → Int32) (vwhich : Nat → Int32) (vwhom : Nat → Int32) (vacts : Int32) (vplace : Int32) (vopenMany : Int32) (vended : Int32) (vspoken : Int32) (vheaviest : Int32) (vheaviestWeight : Int32) (vhad : Nat → Int32) (vbadAct : Int32) (vbadWhy : Int32) (vbrings : Nat → Int64) (vbringsThen : Nat → Int64) (vkept : Nat → Int32) (visKept : Nat → Int32) (vkeptAt : Int32) (visWriting : Int32) (p1 : Int32) (out : (Nat → Int32) × (Nat → Int32) × Int32) (hf : f_X5_passRow_sightRight vsightRight vkept vkeptAt visWriting p1 = some out) : kV l D K yX5_passRow wsX5_passRow rmX5_passRow [.ref (q 0), .ref (q 8), .int p1] (mdW K q vweight vkind vrhymes vpurse vhas vwishes vwishMany vsightLeft vsightRight vsightHow vsights vpad vpadMany vact vwho vwhich vwhom vacts vplace vopenMany vended vspoken vheaviest vheaviestWeight vhad vbadAct vbadWhy vbrings vbringsThen vkept visKept vkeptAt visWriting) (mdW K q vweight vkind vrhymes vpurse vhas vwishes vwishMany vsightLeft out.1 vsightHow vsights vpad vpadMany vact vwho vwhich vwhom vacts vplace vopenMany vended vspoken vheaviest vheaviestWeight vhad vbadAct vbadWhy vbrings vbringsThen out.2.1 visKept out.2.2 visWriting) := by
  refine kV.of (cc := cX5_passRow) (maxL := 4) (by decide) rfl (Nat.le_of_ble_eq_true rfl) ?_
  intro p e s m args below meth c A H0 Q ls hx hb hml hown hts hK hN hA hP hD hS hl hret
  have hown : s.vm.findClass RX5 = some m.cls := hown
  have hl : lv_has ls 4 [(0, .ref (q 0)), (1, .ref (q 8)), (2, .int p1)] := hl
  generalize hH : H0 = H at hP ⊢
  have hS : va_S A H0 H [] := by rw [← hH]; exact hS
  clear hH
  unfold f_X5_passRow_sightRight at hf
  refine lv_iconst (v := 0) hx hb dX5_passRow_0 (by decide) ?_
  refine lv_istore_n (lv' := [(3, .int 0), (0, .ref (q 0)), (1, .ref (q 8)), (2, .int p1)]) hx hb dX5_passRow_1 rfl hl (by decide) rfl (fun ls hl => ?_)
  obtain ⟨r1, hr1, hf⟩ := ob_el hf
  have post2 : ∀ (e2_l3 : Int32) (e2_kept : Nat → Int32) (e2_keptAt : Int32) (e2_sightRight : Nat → Int32) (H : Heap) (locs : List Loc) (ls : Array Slot), (some (e2_sightRight, e2_kept, e2_keptAt)) = some out → va_P D vwCl (mdW K q vweight vkind vrhymes vpurse vhas vwishes vwishMany vsightLeft e2_sightRight vsightHow vsights vpad vpadMany vact vwho vwhich vwhom vacts vplace vopenMany vended vspoken vheaviest vheaviestWeight vhad vbadAct vbadWhy vbrings vbringsThen e2_kept visKept e2_keptAt visWriting) H → va_D A (mdW K q vweight vkind vrhymes vpurse vhas vwishes vwishMany vsightLeft e2_sightRight vsightHow vsights vpad vpadMany vact vwho vwhich vwhom vacts vplace vopenMany vended vspoken vheaviest vheaviestWeight vhad vbadAct vbadWhy vbrings vbringsThen e2_kept visKept e2_keptAt visWriting) → va_S A H0 H locs → lv_has ls 4 [(3, .int e2_l3), (0, .ref (q 0)), (1, .ref (q 8)), (2, .int p1)] → W p l e rmX5_passRow s m args below meth c H locs 0 0 Q (F0 m 23 ls []) := by
    intro e2_l3 e2_kept e2_keptAt e2_sightRight H locs ls hf hP hD hS hl
    obtain rfl := Option.some.inj hf
    exact hret rfl hP hD hS dX5_passRow_23
  have lp2 : ∀ (fu : Nat) (x2_l3 : Int32) (x2_kept : Nat → Int32) (x2_keptAt : Int32) (x2_sightRight : Nat → Int32) (H : Heap) (locs : List Loc) (ls : Array Slot), wh (s_X5_passRow_sightRight_2 visWriting p1) fu (x2_l3, x2_kept, x2_keptAt, x2_sightRight) = some r1 → va_P D vwCl (mdW K q vweight vkind vrhymes vpurse vhas vwishes vwishMany vsightLeft x2_sightRight vsightHow vsights vpad vpadMany vact vwho vwhich vwhom vacts vplace vopenMany vended vspoken vheaviest vheaviestWeight vhad vbadAct vbadWhy vbrings vbringsThen x2_kept visKept x2_keptAt visWriting) H → va_D A (mdW K q vweight vkind vrhymes vpurse vhas vwishes vwishMany vsightLeft x2_sightRight vsightHow vsights vpad vpadMany vact vwho vwhich vwhom vacts vplace vopenMany vended vspoken vheaviest vheaviestWeight vhad vbadAct vbadWhy vbrings vbringsThen x2_kept visKept x2_keptAt visWriting) → va_S A H0 H locs → lv_has ls 4 [(3, .int x2_l3), (0, .ref (q 0)), (1, .ref (q 8)), (2, .int p1)] → W p l e rmX5_passRow s m args below meth c H locs 0 0 Q (F0 m 2 ls []) := by
    intro fu
    induction fu with
    | zero => intro x2_l3 x2_kept x2_keptAt x2_sightRight H locs ls hw2; cases hw2
    | succ fu ih2 =>
      intro x2_l3 x2_kept x2_keptAt x2_sightRight H locs ls hw2 hP hD hS hl
      obtain ⟨o2_, hs2, hw2⟩ := wh_el hw2
      unfold s_X5_passRow_sightRight_2 at hs2
      dsimp only at hs2
      refine lv_iload_n hx hb dX5_passRow_2 rfl (lv_at hl 0 rfl) ?_
      refine lv_iload_n hx hb dX5_passRow_3 rfl (lv_at hl 3 rfl) ?_
      refine lv_icmp_ge (tgt := 23) hx hb dX5_passRow_4 (by decide) (fun c2 => ?_) (fun c2 => ?_)
      · rw [if_pos c2] at hs2
        obtain rfl := Option.some.inj hs2
        have e9 := Option.some.inj hw2
        rw [← e9] at hf
        exact post2 _ _ _ _ _ _ _ hf hP hD hS (lv_sub hl [0, 1, 2, 3] rfl)
      · rw [if_neg c2] at hs2
        refine lv_aload_n hx hb dX5_passRow_7 rfl (lv_at hl 2 rfl) ?_
        refine lv_iload_n hx hb dX5_passRow_8 rfl (lv_at hl 0 rfl) ?_
        refine lv_aload_n hx hb dX5_passRow_9 rfl (lv_at hl 1 rfl) ?_
        refine lv_aload_n hx hb dX5_passRow_10 rfl (lv_at hl 2 rfl) ?_
        refine lv_iload_n hx hb dX5_passRow_11 rfl (lv_at hl 0 rfl) ?_
        obtain ⟨v3, hs2⟩ := chk_el hs2
        refine va_iald (D := D) (f := x2_sightRight) hx hb hK hP 8 0 rfl rfl v3 dX5_passRow_12 ?_
        obtain ⟨o4, ho4, hs2⟩ := ob_el hs2
        refine kcw_i (D := D) (va_runV (As := [.int (x2_sightRight (x2_l3).toNatClampNeg)]) (rest := [.int x2_l3, .ref (q 8)]) ⟨hx, hb, hml, hown, hts⟩ ((k_X5_pass l D K q vweight vkind vrhymes vpurse vhas vwishes vwishMany vsightLeft x2_sightRight vsightHow vsights vpad vpadMany vact vwho vwhich vwhom vacts vplace vopenMany vended vspoken vheaviest vheaviestWeight vhad vbadAct vbadWhy vbrings vbringsThen x2_kept visKept x2_keptAt visWriting (x2_sightRight (x2_l3).toNatClampNeg) o4 ho4) H.size) (cwV 1 hts gX5_passRow_X5_pass rfl rfl rfl ⟨rfl, yd_X5_pass⟩ ⟨Nat.le_of_ble_eq_true rfl, Nat.le_of_ble_eq_true rfl⟩) (kPreV (ci := 5) (q0 := 0) hP rfl rfl hP hD hK hN) rfl rfl hl.1 rfl (lv_room (Nat.le_of_ble_eq_true rfl)) dX5_passRow_13 ⟨Nat.le_of_ble_eq_true rfl, Nat.le_of_ble_eq_true rfl⟩) hD hS hA (fun hzo4 H locs hP hD hS => ?_)
        have hP : va_P D vwCl (mdW K q vweight vkind vrhymes vpurse vhas vwishes vwishMany vsightLeft x2_sightRight vsightHow vsights vpad vpadMany vact vwho vwhich vwhom vacts vplace vopenMany vended vspoken vheaviest vheaviestWeight vhad vbadAct vbadWhy vbrings vbringsThen o4.2.1 visKept o4.2.2 visWriting) H := hP
        have hD : va_D A (mdW K q vweight vkind vrhymes vpurse vhas vwishes vwishMany vsightLeft x2_sightRight vsightHow vsights vpad vpadMany vact vwho vwhich vwhom vacts vplace vopenMany vended vspoken vheaviest vheaviestWeight vhad vbadAct vbadWhy vbrings vbringsThen o4.2.1 visKept o4.2.2 visWriting) := hD
        refine va_iast (D := D) (f := x2_sightRight) hx hb hK hP hD hS 8 0 rfl rfl v3 dX5_passRow_16 (fun H locs hP hD hS => ?_)
        have hP : va_P D vwCl (mdW K q vweight vkind vrhymes vpurse vhas vwishes vwishMany vsightLeft (upd x2_sightRight (x2_l3).toNatClampNeg o4.1) vsightHow vsights vpad vpadMany vact vwho vwhich vwhom vacts vplace vopenMany vended vspoken vheaviest vheaviestWeight vhad vbadAct vbadWhy vbrings vbringsThen o4.2.1 visKept o4.2.2 visWriting) H := hP
        have hD : va_D A (mdW K q vweight vkind vrhymes vpurse vhas vwishes vwishMany vsightLeft (upd x2_sightRight (x2_l3).toNatClampNeg o4.1) vsightHow vsights vpad vpadMany vact vwho vwhich vwhom vacts vplace vopenMany vended vspoken vheaviest vheaviestWeight vhad vbadAct vbadWhy vbrings vbringsThen o4.2.1 visKept o4.2.2 visWriting) := hD
        refine lv_iinc (v := (x2_l3 + 1)) (lv' := [(3, .int (x2_l3 + 1)), (0, .ref (q 0)), (1, .ref (q 8)), (2, .int p1)]) hx hb dX5_passRow_17 hl (k := 0) rfl (by rfl) (by decide) rfl (fun ls hl => ?_)
        refine lv_goto (tgt := 2) hx hb dX5_passRow_20 (by decide) ?_
        obtain rfl := Option.some.inj hs2
        exact ih2 _ _ _ _ _ _ _ hw2 hP hD hS (lv_sub hl [0, 1, 2, 3] rfl)
  exact lp2 5000 _ _ _ _ _ _ _ hr1 hP hD hS (lv_sub hl [0, 1, 2, 3] rfl)
def s_X5_passRow_sightHow_2 (visWriting : Int32) (p1 : Int32) (x : Int32 × (Nat → Int32) × Int32 × (Nat → Int32)) : Option ((Int32 × (Nat → Int32) × Int32 × (Nat → Int32)) ⊕ (Int32 × (Nat → Int32) × Int32 × (Nat → Int32))) := if p1 ≤ x.1 then (some (.inr (x.1, x.2.1, x.2.2.1, x.2.2.2))) else (chk x.1 6 (ob (f_X5_pass x.2.1 x.2.2.1 visWriting (x.2.2.2 (x.1).toNatClampNeg)) (fun o4 => some (.inl ((x.1 + 1), o4.2.1, o4.2.2, (upd x.2.2.2 (x.1).toNatClampNeg o4.1))))))
def f_X5_passRow_sightHow (vsightHow : Nat → Int32) (vkept : Nat → Int32) (vkeptAt : Int32) (visWriting : Int32) (p1 : Int32) : Option ((Nat → Int32) × (Nat → Int32) × Int32) := ob (wh (s_X5_passRow_sightHow_2 visWriting p1) 5000 (0, vkept, vkeptAt, vsightHow)) (fun r1 => some (r1.2.2.2, r1.2.1, r1.2.2.1))
set_option maxHeartbeats 4000000 in
set_option maxRecDepth 100000 in
theorem k_X5_passRow_sightHow (l : Launch) (D : va_G) (K : Nat → ClassId) (q : Nat → Nat) (vweight : Nat → Int32) (vkind : Nat → Int32) (vrhymes : Nat → Int32) (vpurse : Nat → Int32) (vhas : Nat → Int32) (vwishes : Nat → Int32) (vwishMany : Int32) (vsightLeft : Nat → Int32) (vsightRight : Nat → Int32) (vsightHow : Nat → Int32) (vsights : Int32) (vpad : Nat → Int32) (vpadMany : Int32) (vact : Nat → Int32) (vwho : Nat → Int32) (vwhich : Nat → Int32) (vwhom : Nat → Int32) (vacts : Int32) (vplace : Int32) (vopenMany : Int32) (vended : Int32) (vspoken : Int32) (vheaviest : Int32) (vheaviestWeight : Int32) (vhad : Nat → Int32) (vbadAct : Int32) (vbadWhy : Int32) (vbrings : Nat → Int64) (vbringsThen : Nat → Int64) (vkept : Nat → Int32) (visKept : Nat → Int32) (vkeptAt : Int32) (visWriting : Int32) (p1 : Int32) (out : (Nat → Int32) × (Nat → Int32) × Int32) (hf : f_X5_passRow_sightHow vsightHow vkept vkeptAt visWriting p1 = some out) : kV l D K yX5_passRow wsX5_passRow rmX5_passRow [.ref (q 0), .ref (q 9), .int p1] (mdW K q vweight vkind vrhymes vpurse vhas vwishes vwishMany vsightLeft vsightRight vsightHow vsights vpad vpadMany vact vwho vwhich vwhom vacts vplace vopenMany vended vspoken vheaviest vheaviestWeight vhad vbadAct vbadWhy vbrings vbringsThen vkept visKept vkeptAt visWriting) (mdW K q vweight vkind vrhymes vpurse vhas vwishes vwishMany vsightLeft vsightRight out.1 vsights vpad vpadMany vact vwho vwhich vwhom vacts vplace vopenMany vended vspoken vheaviest vheaviestWeight vhad vbadAct vbadWhy vbrings vbringsThen out.2.1 visKept out.2.2 visWriting) := by
  refine kV.of (cc := cX5_passRow) (maxL := 4) (by decide) rfl (Nat.le_of_ble_eq_true rfl) ?_
  intro p e s m args below meth c A H0 Q ls hx hb hml hown hts hK hN hA hP hD hS hl hret
  have hown : s.vm.findClass RX5 = some m.cls := hown
  have hl : lv_has ls 4 [(0, .ref (q 0)), (1, .ref (q 9)), (2, .int p1)] := hl
  generalize hH : H0 = H at hP ⊢
  have hS : va_S A H0 H [] := by rw [← hH]; exact hS
  clear hH
  unfold f_X5_passRow_sightHow at hf
  refine lv_iconst (v := 0) hx hb dX5_passRow_0 (by decide) ?_
  refine lv_istore_n (lv' := [(3, .int 0), (0, .ref (q 0)), (1, .ref (q 9)), (2, .int p1)]) hx hb dX5_passRow_1 rfl hl (by decide) rfl (fun ls hl => ?_)
  obtain ⟨r1, hr1, hf⟩ := ob_el hf
  have post2 : ∀ (e2_l3 : Int32) (e2_kept : Nat → Int32) (e2_keptAt : Int32) (e2_sightHow : Nat → Int32) (H : Heap) (locs : List Loc) (ls : Array Slot), (some (e2_sightHow, e2_kept, e2_keptAt)) = some out → va_P D vwCl (mdW K q vweight vkind vrhymes vpurse vhas vwishes vwishMany vsightLeft vsightRight e2_sightHow vsights vpad vpadMany vact vwho vwhich vwhom vacts vplace vopenMany vended vspoken vheaviest vheaviestWeight vhad vbadAct vbadWhy vbrings vbringsThen e2_kept visKept e2_keptAt visWriting) H → va_D A (mdW K q vweight vkind vrhymes vpurse vhas vwishes vwishMany vsightLeft vsightRight e2_sightHow vsights vpad vpadMany vact vwho vwhich vwhom vacts vplace vopenMany vended vspoken vheaviest vheaviestWeight vhad vbadAct vbadWhy vbrings vbringsThen e2_kept visKept e2_keptAt visWriting) → va_S A H0 H locs → lv_has ls 4 [(3, .int e2_l3), (0, .ref (q 0)), (1, .ref (q 9)), (2, .int p1)] → W p l e rmX5_passRow s m args below meth c H locs 0 0 Q (F0 m 23 ls []) := by
    intro e2_l3 e2_kept e2_keptAt e2_sightHow H locs ls hf hP hD hS hl
    obtain rfl := Option.some.inj hf
    exact hret rfl hP hD hS dX5_passRow_23
  have lp2 : ∀ (fu : Nat) (x2_l3 : Int32) (x2_kept : Nat → Int32) (x2_keptAt : Int32) (x2_sightHow : Nat → Int32) (H : Heap) (locs : List Loc) (ls : Array Slot), wh (s_X5_passRow_sightHow_2 visWriting p1) fu (x2_l3, x2_kept, x2_keptAt, x2_sightHow) = some r1 → va_P D vwCl (mdW K q vweight vkind vrhymes vpurse vhas vwishes vwishMany vsightLeft vsightRight x2_sightHow vsights vpad vpadMany vact vwho vwhich vwhom vacts vplace vopenMany vended vspoken vheaviest vheaviestWeight vhad vbadAct vbadWhy vbrings vbringsThen x2_kept visKept x2_keptAt visWriting) H → va_D A (mdW K q vweight vkind vrhymes vpurse vhas vwishes vwishMany vsightLeft vsightRight x2_sightHow vsights vpad vpadMany vact vwho vwhich vwhom vacts vplace vopenMany vended vspoken vheaviest vheaviestWeight vhad vbadAct vbadWhy vbrings vbringsThen x2_kept visKept x2_keptAt visWriting) → va_S A H0 H locs → lv_has ls 4 [(3, .int x2_l3), (0, .ref (q 0)), (1, .ref (q 9)), (2, .int p1)] → W p l e rmX5_passRow s m args below meth c H locs 0 0 Q (F0 m 2 ls []) := by
    intro fu
    induction fu with
    | zero => intro x2_l3 x2_kept x2_keptAt x2_sightHow H locs ls hw2; cases hw2
    | succ fu ih2 =>
      intro x2_l3 x2_kept x2_keptAt x2_sightHow H locs ls hw2 hP hD hS hl
      obtain ⟨o2_, hs2, hw2⟩ := wh_el hw2
      unfold s_X5_passRow_sightHow_2 at hs2
      dsimp only at hs2
      refine lv_iload_n hx hb dX5_passRow_2 rfl (lv_at hl 0 rfl) ?_
      refine lv_iload_n hx hb dX5_passRow_3 rfl (lv_at hl 3 rfl) ?_
      refine lv_icmp_ge (tgt := 23) hx hb dX5_passRow_4 (by decide) (fun c2 => ?_) (fun c2 => ?_)
      · rw [if_pos c2] at hs2
        obtain rfl := Option.some.inj hs2
        have e9 := Option.some.inj hw2
        rw [← e9] at hf
        exact post2 _ _ _ _ _ _ _ hf hP hD hS (lv_sub hl [0, 1, 2, 3] rfl)
      · rw [if_neg c2] at hs2
        refine lv_aload_n hx hb dX5_passRow_7 rfl (lv_at hl 2 rfl) ?_
        refine lv_iload_n hx hb dX5_passRow_8 rfl (lv_at hl 0 rfl) ?_
        refine lv_aload_n hx hb dX5_passRow_9 rfl (lv_at hl 1 rfl) ?_
        refine lv_aload_n hx hb dX5_passRow_10 rfl (lv_at hl 2 rfl) ?_
        refine lv_iload_n hx hb dX5_passRow_11 rfl (lv_at hl 0 rfl) ?_
        obtain ⟨v3, hs2⟩ := chk_el hs2
        refine va_iald (D := D) (f := x2_sightHow) hx hb hK hP 9 0 rfl rfl v3 dX5_passRow_12 ?_
        obtain ⟨o4, ho4, hs2⟩ := ob_el hs2
        refine kcw_i (D := D) (va_runV (As := [.int (x2_sightHow (x2_l3).toNatClampNeg)]) (rest := [.int x2_l3, .ref (q 9)]) ⟨hx, hb, hml, hown, hts⟩ ((k_X5_pass l D K q vweight vkind vrhymes vpurse vhas vwishes vwishMany vsightLeft vsightRight x2_sightHow vsights vpad vpadMany vact vwho vwhich vwhom vacts vplace vopenMany vended vspoken vheaviest vheaviestWeight vhad vbadAct vbadWhy vbrings vbringsThen x2_kept visKept x2_keptAt visWriting (x2_sightHow (x2_l3).toNatClampNeg) o4 ho4) H.size) (cwV 1 hts gX5_passRow_X5_pass rfl rfl rfl ⟨rfl, yd_X5_pass⟩ ⟨Nat.le_of_ble_eq_true rfl, Nat.le_of_ble_eq_true rfl⟩) (kPreV (ci := 5) (q0 := 0) hP rfl rfl hP hD hK hN) rfl rfl hl.1 rfl (lv_room (Nat.le_of_ble_eq_true rfl)) dX5_passRow_13 ⟨Nat.le_of_ble_eq_true rfl, Nat.le_of_ble_eq_true rfl⟩) hD hS hA (fun hzo4 H locs hP hD hS => ?_)
        have hP : va_P D vwCl (mdW K q vweight vkind vrhymes vpurse vhas vwishes vwishMany vsightLeft vsightRight x2_sightHow vsights vpad vpadMany vact vwho vwhich vwhom vacts vplace vopenMany vended vspoken vheaviest vheaviestWeight vhad vbadAct vbadWhy vbrings vbringsThen o4.2.1 visKept o4.2.2 visWriting) H := hP
        have hD : va_D A (mdW K q vweight vkind vrhymes vpurse vhas vwishes vwishMany vsightLeft vsightRight x2_sightHow vsights vpad vpadMany vact vwho vwhich vwhom vacts vplace vopenMany vended vspoken vheaviest vheaviestWeight vhad vbadAct vbadWhy vbrings vbringsThen o4.2.1 visKept o4.2.2 visWriting) := hD
        refine va_iast (D := D) (f := x2_sightHow) hx hb hK hP hD hS 9 0 rfl rfl v3 dX5_passRow_16 (fun H locs hP hD hS => ?_)
        have hP : va_P D vwCl (mdW K q vweight vkind vrhymes vpurse vhas vwishes vwishMany vsightLeft vsightRight (upd x2_sightHow (x2_l3).toNatClampNeg o4.1) vsights vpad vpadMany vact vwho vwhich vwhom vacts vplace vopenMany vended vspoken vheaviest vheaviestWeight vhad vbadAct vbadWhy vbrings vbringsThen o4.2.1 visKept o4.2.2 visWriting) H := hP
        have hD : va_D A (mdW K q vweight vkind vrhymes vpurse vhas vwishes vwishMany vsightLeft vsightRight (upd x2_sightHow (x2_l3).toNatClampNeg o4.1) vsights vpad vpadMany vact vwho vwhich vwhom vacts vplace vopenMany vended vspoken vheaviest vheaviestWeight vhad vbadAct vbadWhy vbrings vbringsThen o4.2.1 visKept o4.2.2 visWriting) := hD
        refine lv_iinc (v := (x2_l3 + 1)) (lv' := [(3, .int (x2_l3 + 1)), (0, .ref (q 0)), (1, .ref (q 9)), (2, .int p1)]) hx hb dX5_passRow_17 hl (k := 0) rfl (by rfl) (by decide) rfl (fun ls hl => ?_)
        refine lv_goto (tgt := 2) hx hb dX5_passRow_20 (by decide) ?_
        obtain rfl := Option.some.inj hs2
        exact ih2 _ _ _ _ _ _ _ hw2 hP hD hS (lv_sub hl [0, 1, 2, 3] rfl)
  exact lp2 5000 _ _ _ _ _ _ _ hr1 hP hD hS (lv_sub hl [0, 1, 2, 3] rfl)
def f_X5_passAll (vweight : Nat → Int32) (vkind : Nat → Int32) (vrhymes : Nat → Int32) (vpurse : Nat → Int32) (vhas : Nat → Int32) (vwishes : Nat → Int32) (vwishMany : Int32) (vsightLeft : Nat → Int32) (vsightRight : Nat → Int32) (vsightHow : Nat → Int32) (vsights : Int32) (vkept : Nat → Int32) (vkeptAt : Int32) (visWriting : Int32) : Option ((Nat → Int32) × (Nat → Int32) × (Nat → Int32) × (Nat → Int32) × (Nat → Int32) × (Nat → Int32) × Int32 × (Nat → Int32) × (Nat → Int32) × (Nat → Int32) × Int32 × (Nat → Int32) × Int32) := ob (f_X5_pass vkept vkeptAt visWriting vwishMany) (fun o1 => ob (f_X5_pass o1.2.1 o1.2.2 visWriting vsights) (fun o2 => ob (f_X5_passRow_weight vweight o2.2.1 o2.2.2 visWriting (12)) (fun o3 => ob (f_X5_passRow_kind vkind o3.2.1 o3.2.2 visWriting (12)) (fun o4 => ob (f_X5_passRow_rhymes vrhymes o4.2.1 o4.2.2 visWriting (12)) (fun o5 => ob (f_X5_passRow_purse vpurse o5.2.1 o5.2.2 visWriting (4)) (fun o6 => ob (f_X5_passRow_has vhas o6.2.1 o6.2.2 visWriting (4)) (fun o7 => ob (f_X5_passRow_wishes vwishes o7.2.1 o7.2.2 visWriting (8)) (fun o8 => ob (f_X5_passRow_sightLeft vsightLeft o8.2.1 o8.2.2 visWriting (6)) (fun o9 => ob (f_X5_passRow_sightRight vsightRight o9.2.1 o9.2.2 visWriting (6)) (fun o10 => ob (f_X5_passRow_sightHow vsightHow o10.2.1 o10.2.2 visWriting (6)) (fun o11 => some (o3.1, o4.1, o5.1, o6.1, o7.1, o8.1, o1.1, o9.1, o10.1, o11.1, o2.1, o11.2.1, o11.2.2))))))))))))
theorem inX5_passAll_X5 : ∀ w ∈ wsX50, w ∈ wsX5_passAll := fun w h => List.mem_cons_of_mem _ (List.mem_append_right _ h)
theorem yd_X5_passAll : yX5_passAll.cls ≠ "java/lang/invoke/MethodHandle" ∧ yX5_passAll.cls ≠ "java/lang/invoke/VarHandle" ∧ (parseMethodDescriptor yX5_passAll.desc).map (fun d => d.parameters.length) = some 0 := by decide +kernel
abbrev rmX5_passAll : Room := { frames := 2, cells := 0, slots := 0, locals := 45 }
set_option maxHeartbeats 4000000 in
set_option maxRecDepth 100000 in
theorem k_X5_passAll (l : Launch) (D : va_G) (K : Nat → ClassId) (q : Nat → Nat) (vweight : Nat → Int32) (vkind : Nat → Int32) (vrhymes : Nat → Int32) (vpurse : Nat → Int32) (vhas : Nat → Int32) (vwishes : Nat → Int32) (vwishMany : Int32) (vsightLeft : Nat → Int32) (vsightRight : Nat → Int32) (vsightHow : Nat → Int32) (vsights : Int32) (vpad : Nat → Int32) (vpadMany : Int32) (vact : Nat → Int32) (vwho : Nat → Int32) (vwhich : Nat → Int32) (vwhom : Nat → Int32) (vacts : Int32) (vplace : Int32) (vopenMany : Int32) (vended : Int32) (vspoken : Int32) (vheaviest : Int32) (vheaviestWeight : Int32) (vhad : Nat → Int32) (vbadAct : Int32) (vbadWhy : Int32) (vbrings : Nat → Int64) (vbringsThen : Nat → Int64) (vkept : Nat → Int32) (visKept : Nat → Int32) (vkeptAt : Int32) (visWriting : Int32) (out : (Nat → Int32) × (Nat → Int32) × (Nat → Int32) × (Nat → Int32) × (Nat → Int32) × (Nat → Int32) × Int32 × (Nat → Int32) × (Nat → Int32) × (Nat → Int32) × Int32 × (Nat → Int32) × Int32) (hf : f_X5_passAll vweight vkind vrhymes vpurse vhas vwishes vwishMany vsightLeft vsightRight vsightHow vsights vkept vkeptAt visWriting = some out) : kV l D K yX5_passAll wsX5_passAll rmX5_passAll [.ref (q 0)] (mdW K q vweight vkind vrhymes vpurse vhas vwishes vwishMany vsightLeft vsightRight vsightHow vsights vpad vpadMany vact vwho vwhich vwhom vacts vplace vopenMany vended vspoken vheaviest vheaviestWeight vhad vbadAct vbadWhy vbrings vbringsThen vkept visKept vkeptAt visWriting) (mdW K q out.1 out.2.1 out.2.2.1 out.2.2.2.1 out.2.2.2.2.1 out.2.2.2.2.2.1 out.2.2.2.2.2.2.1 out.2.2.2.2.2.2.2.1 out.2.2.2.2.2.2.2.2.1 out.2.2.2.2.2.2.2.2.2.1 out.2.2.2.2.2.2.2.2.2.2.1 vpad vpadMany vact vwho vwhich vwhom vacts vplace vopenMany vended vspoken vheaviest vheaviestWeight vhad vbadAct vbadWhy vbrings vbringsThen out.2.2.2.2.2.2.2.2.2.2.2.1 visKept out.2.2.2.2.2.2.2.2.2.2.2.2 visWriting) := by
  refine kV.of (cc := cX5_passAll) (maxL := 1) (by decide) rfl (Nat.le_of_ble_eq_true rfl) ?_
  intro p e s m args below meth c A H0 Q ls hx hb hml hown hts hK hN hA hP hD hS hl hret
  have hown : s.vm.findClass RX5 = some m.cls := hown
  have hl : lv_has ls 1 [(0, .ref (q 0))] := hl
  generalize hH : H0 = H at hP ⊢
  have hS : va_S A H0 H [] := by rw [← hH]; exact hS
  clear hH
  unfold f_X5_passAll at hf
  refine lv_aload_n hx hb dX5_passAll_0 rfl (lv_at hl 0 rfl) ?_
  refine lv_aload_n hx hb dX5_passAll_1 rfl (lv_at hl 0 rfl) ?_
  refine lv_aload_n hx hb dX5_passAll_2 rfl (lv_at hl 0 rfl) ?_
  refine va_get (D := D) (ci := 5) (v := .int vwishMany) (C := RX5) (T := TX5) (N := 33) hx hb hts inX5_passAll_X5 hown hK hP 0 rfl rfl 6 (by decide) (hts (.fieldLink RX5 218 "WordScalesModel" "wishMany" "I") (List.mem_of_getElem? (i := 1) rfl)) (fun _ h9 => h9) rfl dX5_passAll_3 ?_
  obtain ⟨o1, ho1, hf⟩ := ob_el hf
  refine kcw_i (D := D) (va_runV (As := [.int vwishMany]) (rest := [.ref (q 0)]) ⟨hx, hb, hml, hown, hts⟩ ((k_X5_pass l D K q vweight vkind vrhymes vpurse vhas vwishes vwishMany vsightLeft vsightRight vsightHow vsights vpad vpadMany vact vwho vwhich vwhom vacts vplace vopenMany vended vspoken vheaviest vheaviestWeight vhad vbadAct vbadWhy vbrings vbringsThen vkept visKept vkeptAt visWriting vwishMany o1 ho1) H.size) (cwV 1 hts gX5_passAll_X5_pass rfl rfl rfl ⟨rfl, yd_X5_pass⟩ ⟨Nat.le_of_ble_eq_true rfl, Nat.le_of_ble_eq_true rfl⟩) (kPreV (ci := 5) (q0 := 0) hP rfl rfl hP hD hK hN) rfl rfl hl.1 rfl (lv_room (Nat.le_of_ble_eq_true rfl)) dX5_passAll_6 ⟨Nat.le_of_ble_eq_true rfl, Nat.le_of_ble_eq_true rfl⟩) hD hS hA (fun hzo1 H locs hP hD hS => ?_)
  have hP : va_P D vwCl (mdW K q vweight vkind vrhymes vpurse vhas vwishes vwishMany vsightLeft vsightRight vsightHow vsights vpad vpadMany vact vwho vwhich vwhom vacts vplace vopenMany vended vspoken vheaviest vheaviestWeight vhad vbadAct vbadWhy vbrings vbringsThen o1.2.1 visKept o1.2.2 visWriting) H := hP
  have hD : va_D A (mdW K q vweight vkind vrhymes vpurse vhas vwishes vwishMany vsightLeft vsightRight vsightHow vsights vpad vpadMany vact vwho vwhich vwhom vacts vplace vopenMany vended vspoken vheaviest vheaviestWeight vhad vbadAct vbadWhy vbrings vbringsThen o1.2.1 visKept o1.2.2 visWriting) := hD
  refine va_put (D := D) (ci := 5) (v := .int o1.1) (ty := .int) (C := RX5) (T := TX5) (N := 33) hx hb hts inX5_passAll_X5 tyX5 tyX5_ok nmX5 hown hK hP hD hS 0 rfl rfl 6 (by decide) (hts (.fieldLink RX5 218 "WordScalesModel" "wishMany" "I") (List.mem_of_getElem? (i := 1) rfl)) (fun _ h9 => h9) rfl (tyX5_ok 6 (by decide)) rfl rfl (Nat.le_of_ble_eq_true rfl) dX5_passAll_9 (fun H locs hP hD hS => ?_)
  have hP : va_P D vwCl (mdW K q vweight vkind vrhymes vpurse vhas vwishes o1.1 vsightLeft vsightRight vsightHow vsights vpad vpadMany vact vwho vwhich vwhom vacts vplace vopenMany vended vspoken vheaviest vheaviestWeight vhad vbadAct vbadWhy vbrings vbringsThen o1.2.1 visKept o1.2.2 visWriting) H := hP
  have hD : va_D A (mdW K q vweight vkind vrhymes vpurse vhas vwishes o1.1 vsightLeft vsightRight vsightHow vsights vpad vpadMany vact vwho vwhich vwhom vacts vplace vopenMany vended vspoken vheaviest vheaviestWeight vhad vbadAct vbadWhy vbrings vbringsThen o1.2.1 visKept o1.2.2 visWriting) := hD
  refine lv_aload_n hx hb dX5_passAll_12 rfl (lv_at hl 0 rfl) ?_
  refine lv_aload_n hx hb dX5_passAll_13 rfl (lv_at hl 0 rfl) ?_
  refine lv_aload_n hx hb dX5_passAll_14 rfl (lv_at hl 0 rfl) ?_
  refine va_get (D := D) (ci := 5) (v := .int vsights) (C := RX5) (T := TX5) (N := 33) hx hb hts inX5_passAll_X5 hown hK hP 0 rfl rfl 10 (by decide) (hts (.fieldLink RX5 224 "WordScalesModel" "sights" "I") (List.mem_of_getElem? (i := 2) rfl)) (fun _ h9 => h9) rfl dX5_passAll_15 ?_
  obtain ⟨o2, ho2, hf⟩ := ob_el hf
  refine kcw_i (D := D) (va_runV (As := [.int vsights]) (rest := [.ref (q 0)]) ⟨hx, hb, hml, hown, hts⟩ ((k_X5_pass l D K q vweight vkind vrhymes vpurse vhas vwishes o1.1 vsightLeft vsightRight vsightHow vsights vpad vpadMany vact vwho vwhich vwhom vacts vplace vopenMany vended vspoken vheaviest vheaviestWeight vhad vbadAct vbadWhy vbrings vbringsThen o1.2.1 visKept o1.2.2 visWriting vsights o2 ho2) H.size) (cwV 1 hts gX5_passAll_X5_pass rfl rfl rfl ⟨rfl, yd_X5_pass⟩ ⟨Nat.le_of_ble_eq_true rfl, Nat.le_of_ble_eq_true rfl⟩) (kPreV (ci := 5) (q0 := 0) hP rfl rfl hP hD hK hN) rfl rfl hl.1 rfl (lv_room (Nat.le_of_ble_eq_true rfl)) dX5_passAll_18 ⟨Nat.le_of_ble_eq_true rfl, Nat.le_of_ble_eq_true rfl⟩) hD hS hA (fun hzo2 H locs hP hD hS => ?_)
  have hP : va_P D vwCl (mdW K q vweight vkind vrhymes vpurse vhas vwishes o1.1 vsightLeft vsightRight vsightHow vsights vpad vpadMany vact vwho vwhich vwhom vacts vplace vopenMany vended vspoken vheaviest vheaviestWeight vhad vbadAct vbadWhy vbrings vbringsThen o2.2.1 visKept o2.2.2 visWriting) H := hP
  have hD : va_D A (mdW K q vweight vkind vrhymes vpurse vhas vwishes o1.1 vsightLeft vsightRight vsightHow vsights vpad vpadMany vact vwho vwhich vwhom vacts vplace vopenMany vended vspoken vheaviest vheaviestWeight vhad vbadAct vbadWhy vbrings vbringsThen o2.2.1 visKept o2.2.2 visWriting) := hD
  refine va_put (D := D) (ci := 5) (v := .int o2.1) (ty := .int) (C := RX5) (T := TX5) (N := 33) hx hb hts inX5_passAll_X5 tyX5 tyX5_ok nmX5 hown hK hP hD hS 0 rfl rfl 10 (by decide) (hts (.fieldLink RX5 224 "WordScalesModel" "sights" "I") (List.mem_of_getElem? (i := 2) rfl)) (fun _ h9 => h9) rfl (tyX5_ok 10 (by decide)) rfl rfl (Nat.le_of_ble_eq_true rfl) dX5_passAll_21 (fun H locs hP hD hS => ?_)
  have hP : va_P D vwCl (mdW K q vweight vkind vrhymes vpurse vhas vwishes o1.1 vsightLeft vsightRight vsightHow o2.1 vpad vpadMany vact vwho vwhich vwhom vacts vplace vopenMany vended vspoken vheaviest vheaviestWeight vhad vbadAct vbadWhy vbrings vbringsThen o2.2.1 visKept o2.2.2 visWriting) H := hP
  have hD : va_D A (mdW K q vweight vkind vrhymes vpurse vhas vwishes o1.1 vsightLeft vsightRight vsightHow o2.1 vpad vpadMany vact vwho vwhich vwhom vacts vplace vopenMany vended vspoken vheaviest vheaviestWeight vhad vbadAct vbadWhy vbrings vbringsThen o2.2.1 visKept o2.2.2 visWriting) := hD
  refine lv_aload_n hx hb dX5_passAll_24 rfl (lv_at hl 0 rfl) ?_
  refine lv_aload_n hx hb dX5_passAll_25 rfl (lv_at hl 0 rfl) ?_
  refine va_get (D := D) (ci := 5) (v := .ref (q 1)) (C := RX5) (T := TX5) (N := 33) hx hb hts inX5_passAll_X5 hown hK hP 0 rfl rfl 0 (by decide) (hts (.fieldLink RX5 7 "WordScalesModel" "weight" "[I") (List.mem_of_getElem? (i := 3) rfl)) (fun _ h9 => h9) rfl dX5_passAll_26 ?_
  refine lv_bipush (v := 12) hx hb dX5_passAll_29 (by decide) ?_
  obtain ⟨o3, ho3, hf⟩ := ob_el hf
  refine kcw_v (D := D) (va_runV (As := [.ref (q 1), .int 12]) (rest := []) ⟨hx, hb, hml, hown, hts⟩ ((k_X5_passRow_weight l D K q vweight vkind vrhymes vpurse vhas vwishes o1.1 vsightLeft vsightRight vsightHow o2.1 vpad vpadMany vact vwho vwhich vwhom vacts vplace vopenMany vended vspoken vheaviest vheaviestWeight vhad vbadAct vbadWhy vbrings vbringsThen o2.2.1 visKept o2.2.2 visWriting (12) o3 ho3) H.size) (cwV 2 hts gX5_passAll_X5_passRow rfl rfl rfl ⟨rfl, yd_X5_passRow⟩ ⟨Nat.le_of_ble_eq_true rfl, Nat.le_of_ble_eq_true rfl⟩) (kPreV (ci := 5) (q0 := 0) hP rfl rfl hP hD hK hN) rfl rfl hl.1 rfl (lv_room (Nat.le_of_ble_eq_true rfl)) dX5_passAll_31 ⟨Nat.le_of_ble_eq_true rfl, Nat.le_of_ble_eq_true rfl⟩) hD hS hA (fun H locs hP hD hS => ?_)
  have hP : va_P D vwCl (mdW K q o3.1 vkind vrhymes vpurse vhas vwishes o1.1 vsightLeft vsightRight vsightHow o2.1 vpad vpadMany vact vwho vwhich vwhom vacts vplace vopenMany vended vspoken vheaviest vheaviestWeight vhad vbadAct vbadWhy vbrings vbringsThen o3.2.1 visKept o3.2.2 visWriting) H := hP
  have hD : va_D A (mdW K q o3.1 vkind vrhymes vpurse vhas vwishes o1.1 vsightLeft vsightRight vsightHow o2.1 vpad vpadMany vact vwho vwhich vwhom vacts vplace vopenMany vended vspoken vheaviest vheaviestWeight vhad vbadAct vbadWhy vbrings vbringsThen o3.2.1 visKept o3.2.2 visWriting) := hD
  refine lv_aload_n hx hb dX5_passAll_34 rfl (lv_at hl 0 rfl) ?_
  refine lv_aload_n hx hb dX5_passAll_35 rfl (lv_at hl 0 rfl) ?_
  refine va_get (D := D) (ci := 5) (v := .ref (q 2)) (C := RX5) (T := TX5) (N := 33) hx hb hts inX5_passAll_X5 hown hK hP 0 rfl rfl 1 (by decide) (hts (.fieldLink RX5 13 "WordScalesModel" "kind" "[I") (List.mem_of_getElem? (i := 4) rfl)) (fun _ h9 => h9) rfl dX5_passAll_36 ?_
  refine lv_bipush (v := 12) hx hb dX5_passAll_39 (by decide) ?_
  obtain ⟨o4, ho4, hf⟩ := ob_el hf
  refine kcw_v (D := D) (va_runV (As := [.ref (q 2), .int 12]) (rest := []) ⟨hx, hb, hml, hown, hts⟩ ((k_X5_passRow_kind l D K q o3.1 vkind vrhymes vpurse vhas vwishes o1.1 vsightLeft vsightRight vsightHow o2.1 vpad vpadMany vact vwho vwhich vwhom vacts vplace vopenMany vended vspoken vheaviest vheaviestWeight vhad vbadAct vbadWhy vbrings vbringsThen o3.2.1 visKept o3.2.2 visWriting (12) o4 ho4) H.size) (cwV 2 hts gX5_passAll_X5_passRow rfl rfl rfl ⟨rfl, yd_X5_passRow⟩ ⟨Nat.le_of_ble_eq_true rfl, Nat.le_of_ble_eq_true rfl⟩) (kPreV (ci := 5) (q0 := 0) hP rfl rfl hP hD hK hN) rfl rfl hl.1 rfl (lv_room (Nat.le_of_ble_eq_true rfl)) dX5_passAll_41 ⟨Nat.le_of_ble_eq_true rfl, Nat.le_of_ble_eq_true rfl⟩) hD hS hA (fun H locs hP hD hS => ?_)
  have hP : va_P D vwCl (mdW K q o3.1 o4.1 vrhymes vpurse vhas vwishes o1.1 vsightLeft vsightRight vsightHow o2.1 vpad vpadMany vact vwho vwhich vwhom vacts vplace vopenMany vended vspoken vheaviest vheaviestWeight vhad vbadAct vbadWhy vbrings vbringsThen o4.2.1 visKept o4.2.2 visWriting) H := hP
  have hD : va_D A (mdW K q o3.1 o4.1 vrhymes vpurse vhas vwishes o1.1 vsightLeft vsightRight vsightHow o2.1 vpad vpadMany vact vwho vwhich vwhom vacts vplace vopenMany vended vspoken vheaviest vheaviestWeight vhad vbadAct vbadWhy vbrings vbringsThen o4.2.1 visKept o4.2.2 visWriting) := hD
  refine lv_aload_n hx hb dX5_passAll_44 rfl (lv_at hl 0 rfl) ?_
  refine lv_aload_n hx hb dX5_passAll_45 rfl (lv_at hl 0 rfl) ?_
  refine va_get (D := D) (ci := 5) (v := .ref (q 3)) (C := RX5) (T := TX5) (N := 33) hx hb hts inX5_passAll_X5 hown hK hP 0 rfl rfl 2 (by decide) (hts (.fieldLink RX5 16 "WordScalesModel" "rhymes" "[I") (List.mem_of_getElem? (i := 5) rfl)) (fun _ h9 => h9) rfl dX5_passAll_46 ?_
  refine lv_bipush (v := 12) hx hb dX5_passAll_49 (by decide) ?_
  obtain ⟨o5, ho5, hf⟩ := ob_el hf
  refine kcw_v (D := D) (va_runV (As := [.ref (q 3), .int 12]) (rest := []) ⟨hx, hb, hml, hown, hts⟩ ((k_X5_passRow_rhymes l D K q o3.1 o4.1 vrhymes vpurse vhas vwishes o1.1 vsightLeft vsightRight vsightHow o2.1 vpad vpadMany vact vwho vwhich vwhom vacts vplace vopenMany vended vspoken vheaviest vheaviestWeight vhad vbadAct vbadWhy vbrings vbringsThen o4.2.1 visKept o4.2.2 visWriting (12) o5 ho5) H.size) (cwV 2 hts gX5_passAll_X5_passRow rfl rfl rfl ⟨rfl, yd_X5_passRow⟩ ⟨Nat.le_of_ble_eq_true rfl, Nat.le_of_ble_eq_true rfl⟩) (kPreV (ci := 5) (q0 := 0) hP rfl rfl hP hD hK hN) rfl rfl hl.1 rfl (lv_room (Nat.le_of_ble_eq_true rfl)) dX5_passAll_51 ⟨Nat.le_of_ble_eq_true rfl, Nat.le_of_ble_eq_true rfl⟩) hD hS hA (fun H locs hP hD hS => ?_)
  have hP : va_P D vwCl (mdW K q o3.1 o4.1 o5.1 vpurse vhas vwishes o1.1 vsightLeft vsightRight vsightHow o2.1 vpad vpadMany vact vwho vwhich vwhom vacts vplace vopenMany vended vspoken vheaviest vheaviestWeight vhad vbadAct vbadWhy vbrings vbringsThen o5.2.1 visKept o5.2.2 visWriting) H := hP
  have hD : va_D A (mdW K q o3.1 o4.1 o5.1 vpurse vhas vwishes o1.1 vsightLeft vsightRight vsightHow o2.1 vpad vpadMany vact vwho vwhich vwhom vacts vplace vopenMany vended vspoken vheaviest vheaviestWeight vhad vbadAct vbadWhy vbrings vbringsThen o5.2.1 visKept o5.2.2 visWriting) := hD
  refine lv_aload_n hx hb dX5_passAll_54 rfl (lv_at hl 0 rfl) ?_
  refine lv_aload_n hx hb dX5_passAll_55 rfl (lv_at hl 0 rfl) ?_
  refine va_get (D := D) (ci := 5) (v := .ref (q 4)) (C := RX5) (T := TX5) (N := 33) hx hb hts inX5_passAll_X5 hown hK hP 0 rfl rfl 3 (by decide) (hts (.fieldLink RX5 19 "WordScalesModel" "purse" "[I") (List.mem_of_getElem? (i := 6) rfl)) (fun _ h9 => h9) rfl dX5_passAll_56 ?_
  refine lv_iconst (v := 4) hx hb dX5_passAll_59 (by decide) ?_
  obtain ⟨o6, ho6, hf⟩ := ob_el hf
  refine kcw_v (D := D) (va_runV (As := [.ref (q 4), .int 4]) (rest := []) ⟨hx, hb, hml, hown, hts⟩ ((k_X5_passRow_purse l D K q o3.1 o4.1 o5.1 vpurse vhas vwishes o1.1 vsightLeft vsightRight vsightHow o2.1 vpad vpadMany vact vwho vwhich vwhom vacts vplace vopenMany vended vspoken vheaviest vheaviestWeight vhad vbadAct vbadWhy vbrings vbringsThen o5.2.1 visKept o5.2.2 visWriting (4) o6 ho6) H.size) (cwV 2 hts gX5_passAll_X5_passRow rfl rfl rfl ⟨rfl, yd_X5_passRow⟩ ⟨Nat.le_of_ble_eq_true rfl, Nat.le_of_ble_eq_true rfl⟩) (kPreV (ci := 5) (q0 := 0) hP rfl rfl hP hD hK hN) rfl rfl hl.1 rfl (lv_room (Nat.le_of_ble_eq_true rfl)) dX5_passAll_60 ⟨Nat.le_of_ble_eq_true rfl, Nat.le_of_ble_eq_true rfl⟩) hD hS hA (fun H locs hP hD hS => ?_)
  have hP : va_P D vwCl (mdW K q o3.1 o4.1 o5.1 o6.1 vhas vwishes o1.1 vsightLeft vsightRight vsightHow o2.1 vpad vpadMany vact vwho vwhich vwhom vacts vplace vopenMany vended vspoken vheaviest vheaviestWeight vhad vbadAct vbadWhy vbrings vbringsThen o6.2.1 visKept o6.2.2 visWriting) H := hP
  have hD : va_D A (mdW K q o3.1 o4.1 o5.1 o6.1 vhas vwishes o1.1 vsightLeft vsightRight vsightHow o2.1 vpad vpadMany vact vwho vwhich vwhom vacts vplace vopenMany vended vspoken vheaviest vheaviestWeight vhad vbadAct vbadWhy vbrings vbringsThen o6.2.1 visKept o6.2.2 visWriting) := hD
  refine lv_aload_n hx hb dX5_passAll_63 rfl (lv_at hl 0 rfl) ?_
  refine lv_aload_n hx hb dX5_passAll_64 rfl (lv_at hl 0 rfl) ?_
  refine va_get (D := D) (ci := 5) (v := .ref (q 5)) (C := RX5) (T := TX5) (N := 33) hx hb hts inX5_passAll_X5 hown hK hP 0 rfl rfl 4 (by decide) (hts (.fieldLink RX5 22 "WordScalesModel" "has" "[I") (List.mem_of_getElem? (i := 7) rfl)) (fun _ h9 => h9) rfl dX5_passAll_65 ?_
  refine lv_iconst (v := 4) hx hb dX5_passAll_68 (by decide) ?_
  obtain ⟨o7, ho7, hf⟩ := ob_el hf
  refine kcw_v (D := D) (va_runV (As := [.ref (q 5), .int 4]) (rest := []) ⟨hx, hb, hml, hown, hts⟩ ((k_X5_passRow_has l D K q o3.1 o4.1 o5.1 o6.1 vhas vwishes o1.1 vsightLeft vsightRight vsightHow o2.1 vpad vpadMany vact vwho vwhich vwhom vacts vplace vopenMany vended vspoken vheaviest vheaviestWeight vhad vbadAct vbadWhy vbrings vbringsThen o6.2.1 visKept o6.2.2 visWriting (4) o7 ho7) H.size) (cwV 2 hts gX5_passAll_X5_passRow rfl rfl rfl ⟨rfl, yd_X5_passRow⟩ ⟨Nat.le_of_ble_eq_true rfl, Nat.le_of_ble_eq_true rfl⟩) (kPreV (ci := 5) (q0 := 0) hP rfl rfl hP hD hK hN) rfl rfl hl.1 rfl (lv_room (Nat.le_of_ble_eq_true rfl)) dX5_passAll_69 ⟨Nat.le_of_ble_eq_true rfl, Nat.le_of_ble_eq_true rfl⟩) hD hS hA (fun H locs hP hD hS => ?_)
  have hP : va_P D vwCl (mdW K q o3.1 o4.1 o5.1 o6.1 o7.1 vwishes o1.1 vsightLeft vsightRight vsightHow o2.1 vpad vpadMany vact vwho vwhich vwhom vacts vplace vopenMany vended vspoken vheaviest vheaviestWeight vhad vbadAct vbadWhy vbrings vbringsThen o7.2.1 visKept o7.2.2 visWriting) H := hP
  have hD : va_D A (mdW K q o3.1 o4.1 o5.1 o6.1 o7.1 vwishes o1.1 vsightLeft vsightRight vsightHow o2.1 vpad vpadMany vact vwho vwhich vwhom vacts vplace vopenMany vended vspoken vheaviest vheaviestWeight vhad vbadAct vbadWhy vbrings vbringsThen o7.2.1 visKept o7.2.2 visWriting) := hD
  refine lv_aload_n hx hb dX5_passAll_72 rfl (lv_at hl 0 rfl) ?_
  refine lv_aload_n hx hb dX5_passAll_73 rfl (lv_at hl 0 rfl) ?_
  refine va_get (D := D) (ci := 5) (v := .ref (q 6)) (C := RX5) (T := TX5) (N := 33) hx hb hts inX5_passAll_X5 hown hK hP 0 rfl rfl 5 (by decide) (hts (.fieldLink RX5 25 "WordScalesModel" "wishes" "[I") (List.mem_of_getElem? (i := 8) rfl)) (fun _ h9 => h9) rfl dX5_passAll_74 ?_
  refine lv_bipush (v := 8) hx hb dX5_passAll_77 (by decide) ?_
  obtain ⟨o8, ho8, hf⟩ := ob_el hf
  refine kcw_v (D := D) (va_runV (As := [.ref (q 6), .int 8]) (rest := []) ⟨hx, hb, hml, hown, hts⟩ ((k_X5_passRow_wishes l D K q o3.1 o4.1 o5.1 o6.1 o7.1 vwishes o1.1 vsightLeft vsightRight vsightHow o2.1 vpad vpadMany vact vwho vwhich vwhom vacts vplace vopenMany vended vspoken vheaviest vheaviestWeight vhad vbadAct vbadWhy vbrings vbringsThen o7.2.1 visKept o7.2.2 visWriting (8) o8 ho8) H.size) (cwV 2 hts gX5_passAll_X5_passRow rfl rfl rfl ⟨rfl, yd_X5_passRow⟩ ⟨Nat.le_of_ble_eq_true rfl, Nat.le_of_ble_eq_true rfl⟩) (kPreV (ci := 5) (q0 := 0) hP rfl rfl hP hD hK hN) rfl rfl hl.1 rfl (lv_room (Nat.le_of_ble_eq_true rfl)) dX5_passAll_79 ⟨Nat.le_of_ble_eq_true rfl, Nat.le_of_ble_eq_true rfl⟩) hD hS hA (fun H locs hP hD hS => ?_)
  have hP : va_P D vwCl (mdW K q o3.1 o4.1 o5.1 o6.1 o7.1 o8.1 o1.1 vsightLeft vsightRight vsightHow o2.1 vpad vpadMany vact vwho vwhich vwhom vacts vplace vopenMany vended vspoken vheaviest vheaviestWeight vhad vbadAct vbadWhy vbrings vbringsThen o8.2.1 visKept o8.2.2 visWriting) H := hP
  have hD : va_D A (mdW K q o3.1 o4.1 o5.1 o6.1 o7.1 o8.1 o1.1 vsightLeft vsightRight vsightHow o2.1 vpad vpadMany vact vwho vwhich vwhom vacts vplace vopenMany vended vspoken vheaviest vheaviestWeight vhad vbadAct vbadWhy vbrings vbringsThen o8.2.1 visKept o8.2.2 visWriting) := hD
  refine lv_aload_n hx hb dX5_passAll_82 rfl (lv_at hl 0 rfl) ?_
  refine lv_aload_n hx hb dX5_passAll_83 rfl (lv_at hl 0 rfl) ?_
  refine va_get (D := D) (ci := 5) (v := .ref (q 7)) (C := RX5) (T := TX5) (N := 33) hx hb hts inX5_passAll_X5 hown hK hP 0 rfl rfl 7 (by decide) (hts (.fieldLink RX5 28 "WordScalesModel" "sightLeft" "[I") (List.mem_of_getElem? (i := 9) rfl)) (fun _ h9 => h9) rfl dX5_passAll_84 ?_
  refine lv_bipush (v := 6) hx hb dX5_passAll_87 (by decide) ?_
  obtain ⟨o9, ho9, hf⟩ := ob_el hf
  refine kcw_v (D := D) (va_runV (As := [.ref (q 7), .int 6]) (rest := []) ⟨hx, hb, hml, hown, hts⟩ ((k_X5_passRow_sightLeft l D K q o3.1 o4.1 o5.1 o6.1 o7.1 o8.1 o1.1 vsightLeft vsightRight vsightHow o2.1 vpad vpadMany vact vwho vwhich vwhom vacts vplace vopenMany vended vspoken vheaviest vheaviestWeight vhad vbadAct vbadWhy vbrings vbringsThen o8.2.1 visKept o8.2.2 visWriting (6) o9 ho9) H.size) (cwV 2 hts gX5_passAll_X5_passRow rfl rfl rfl ⟨rfl, yd_X5_passRow⟩ ⟨Nat.le_of_ble_eq_true rfl, Nat.le_of_ble_eq_true rfl⟩) (kPreV (ci := 5) (q0 := 0) hP rfl rfl hP hD hK hN) rfl rfl hl.1 rfl (lv_room (Nat.le_of_ble_eq_true rfl)) dX5_passAll_89 ⟨Nat.le_of_ble_eq_true rfl, Nat.le_of_ble_eq_true rfl⟩) hD hS hA (fun H locs hP hD hS => ?_)
  have hP : va_P D vwCl (mdW K q o3.1 o4.1 o5.1 o6.1 o7.1 o8.1 o1.1 o9.1 vsightRight vsightHow o2.1 vpad vpadMany vact vwho vwhich vwhom vacts vplace vopenMany vended vspoken vheaviest vheaviestWeight vhad vbadAct vbadWhy vbrings vbringsThen o9.2.1 visKept o9.2.2 visWriting) H := hP
  have hD : va_D A (mdW K q o3.1 o4.1 o5.1 o6.1 o7.1 o8.1 o1.1 o9.1 vsightRight vsightHow o2.1 vpad vpadMany vact vwho vwhich vwhom vacts vplace vopenMany vended vspoken vheaviest vheaviestWeight vhad vbadAct vbadWhy vbrings vbringsThen o9.2.1 visKept o9.2.2 visWriting) := hD
  refine lv_aload_n hx hb dX5_passAll_92 rfl (lv_at hl 0 rfl) ?_
  refine lv_aload_n hx hb dX5_passAll_93 rfl (lv_at hl 0 rfl) ?_
  refine va_get (D := D) (ci := 5) (v := .ref (q 8)) (C := RX5) (T := TX5) (N := 33) hx hb hts inX5_passAll_X5 hown hK hP 0 rfl rfl 8 (by decide) (hts (.fieldLink RX5 31 "WordScalesModel" "sightRight" "[I") (List.mem_of_getElem? (i := 10) rfl)) (fun _ h9 => h9) rfl dX5_passAll_94 ?_
  refine lv_bipush (v := 6) hx hb dX5_passAll_97 (by decide) ?_
  obtain ⟨o10, ho10, hf⟩ := ob_el hf
  refine kcw_v (D := D) (va_runV (As := [.ref (q 8), .int 6]) (rest := []) ⟨hx, hb, hml, hown, hts⟩ ((k_X5_passRow_sightRight l D K q o3.1 o4.1 o5.1 o6.1 o7.1 o8.1 o1.1 o9.1 vsightRight vsightHow o2.1 vpad vpadMany vact vwho vwhich vwhom vacts vplace vopenMany vended vspoken vheaviest vheaviestWeight vhad vbadAct vbadWhy vbrings vbringsThen o9.2.1 visKept o9.2.2 visWriting (6) o10 ho10) H.size) (cwV 2 hts gX5_passAll_X5_passRow rfl rfl rfl ⟨rfl, yd_X5_passRow⟩ ⟨Nat.le_of_ble_eq_true rfl, Nat.le_of_ble_eq_true rfl⟩) (kPreV (ci := 5) (q0 := 0) hP rfl rfl hP hD hK hN) rfl rfl hl.1 rfl (lv_room (Nat.le_of_ble_eq_true rfl)) dX5_passAll_99 ⟨Nat.le_of_ble_eq_true rfl, Nat.le_of_ble_eq_true rfl⟩) hD hS hA (fun H locs hP hD hS => ?_)
  have hP : va_P D vwCl (mdW K q o3.1 o4.1 o5.1 o6.1 o7.1 o8.1 o1.1 o9.1 o10.1 vsightHow o2.1 vpad vpadMany vact vwho vwhich vwhom vacts vplace vopenMany vended vspoken vheaviest vheaviestWeight vhad vbadAct vbadWhy vbrings vbringsThen o10.2.1 visKept o10.2.2 visWriting) H := hP
  have hD : va_D A (mdW K q o3.1 o4.1 o5.1 o6.1 o7.1 o8.1 o1.1 o9.1 o10.1 vsightHow o2.1 vpad vpadMany vact vwho vwhich vwhom vacts vplace vopenMany vended vspoken vheaviest vheaviestWeight vhad vbadAct vbadWhy vbrings vbringsThen o10.2.1 visKept o10.2.2 visWriting) := hD
  refine lv_aload_n hx hb dX5_passAll_102 rfl (lv_at hl 0 rfl) ?_
  refine lv_aload_n hx hb dX5_passAll_103 rfl (lv_at hl 0 rfl) ?_
  refine va_get (D := D) (ci := 5) (v := .ref (q 9)) (C := RX5) (T := TX5) (N := 33) hx hb hts inX5_passAll_X5 hown hK hP 0 rfl rfl 9 (by decide) (hts (.fieldLink RX5 34 "WordScalesModel" "sightHow" "[I") (List.mem_of_getElem? (i := 11) rfl)) (fun _ h9 => h9) rfl dX5_passAll_104 ?_
  refine lv_bipush (v := 6) hx hb dX5_passAll_107 (by decide) ?_
  obtain ⟨o11, ho11, hf⟩ := ob_el hf
  refine kcw_v (D := D) (va_runV (As := [.ref (q 9), .int 6]) (rest := []) ⟨hx, hb, hml, hown, hts⟩ ((k_X5_passRow_sightHow l D K q o3.1 o4.1 o5.1 o6.1 o7.1 o8.1 o1.1 o9.1 o10.1 vsightHow o2.1 vpad vpadMany vact vwho vwhich vwhom vacts vplace vopenMany vended vspoken vheaviest vheaviestWeight vhad vbadAct vbadWhy vbrings vbringsThen o10.2.1 visKept o10.2.2 visWriting (6) o11 ho11) H.size) (cwV 2 hts gX5_passAll_X5_passRow rfl rfl rfl ⟨rfl, yd_X5_passRow⟩ ⟨Nat.le_of_ble_eq_true rfl, Nat.le_of_ble_eq_true rfl⟩) (kPreV (ci := 5) (q0 := 0) hP rfl rfl hP hD hK hN) rfl rfl hl.1 rfl (lv_room (Nat.le_of_ble_eq_true rfl)) dX5_passAll_109 ⟨Nat.le_of_ble_eq_true rfl, Nat.le_of_ble_eq_true rfl⟩) hD hS hA (fun H locs hP hD hS => ?_)
  have hP : va_P D vwCl (mdW K q o3.1 o4.1 o5.1 o6.1 o7.1 o8.1 o1.1 o9.1 o10.1 o11.1 o2.1 vpad vpadMany vact vwho vwhich vwhom vacts vplace vopenMany vended vspoken vheaviest vheaviestWeight vhad vbadAct vbadWhy vbrings vbringsThen o11.2.1 visKept o11.2.2 visWriting) H := hP
  have hD : va_D A (mdW K q o3.1 o4.1 o5.1 o6.1 o7.1 o8.1 o1.1 o9.1 o10.1 o11.1 o2.1 vpad vpadMany vact vwho vwhich vwhom vacts vplace vopenMany vended vspoken vheaviest vheaviestWeight vhad vbadAct vbadWhy vbrings vbringsThen o11.2.1 visKept o11.2.2 visWriting) := hD
  obtain rfl := Option.some.inj hf
  exact hret rfl hP hD hS dX5_passAll_112
def f_X5_image (vweight : Nat → Int32) (vkind : Nat → Int32) (vrhymes : Nat → Int32) (vpurse : Nat → Int32) (vhas : Nat → Int32) (vwishes : Nat → Int32) (vwishMany : Int32) (vsightLeft : Nat → Int32) (vsightRight : Nat → Int32) (vsightHow : Nat → Int32) (vsights : Int32) (vkept : Nat → Int32) (visKept : Nat → Int32) (vkeptAt : Int32) (visWriting : Int32) (p0 : Int32) : Option (Int32 × (Nat → Int32) × (Nat → Int32) × (Nat → Int32) × (Nat → Int32) × (Nat → Int32) × (Nat → Int32) × Int32 × (Nat → Int32) × (Nat → Int32) × (Nat → Int32) × Int32 × (Nat → Int32) × (Nat → Int32) × Int32 × Int32) := bd (f_X5_in p0.toInt64 (0) (1)) (fun o1 => if o1 = 0 then (some ((-2), vweight, vkind, vrhymes, vpurse, vhas, vwishes, vwishMany, vsightLeft, vsightRight, vsightHow, vsights, vkept, visKept, vkeptAt, visWriting)) else (ob (f_X5_passAll vweight vkind vrhymes vpurse vhas vwishes vwishMany vsightLeft vsightRight vsightHow vsights vkept (90 * p0) 1) (fun o3 => chk p0 2 (some (1, o3.1, o3.2.1, o3.2.2.1, o3.2.2.2.1, o3.2.2.2.2.1, o3.2.2.2.2.2.1, o3.2.2.2.2.2.2.1, o3.2.2.2.2.2.2.2.1, o3.2.2.2.2.2.2.2.2.1, o3.2.2.2.2.2.2.2.2.2.1, o3.2.2.2.2.2.2.2.2.2.2.1, o3.2.2.2.2.2.2.2.2.2.2.2.1, (upd visKept (p0).toNatClampNeg (vp_nar .boolean 1)), o3.2.2.2.2.2.2.2.2.2.2.2.2, 1)))))
theorem inX5_image_X5 : ∀ w ∈ wsX50, w ∈ wsX5_image := fun w h => List.mem_cons_of_mem _ (List.mem_append_right _ h)
theorem yd_X5_image : yX5_image.cls ≠ "java/lang/invoke/MethodHandle" ∧ yX5_image.cls ≠ "java/lang/invoke/VarHandle" ∧ (parseMethodDescriptor yX5_image.desc).map (fun d => d.parameters.length) = some 1 := by decide +kernel
abbrev rmX5_image : Room := { frames := 3, cells := 0, slots := 0, locals := 65 }
set_option maxHeartbeats 4000000 in
set_option maxRecDepth 100000 in
theorem k_X5_image (l : Launch) (D : va_G) (K : Nat → ClassId) (q : Nat → Nat) (vweight : Nat → Int32) (vkind : Nat → Int32) (vrhymes : Nat → Int32) (vpurse : Nat → Int32) (vhas : Nat → Int32) (vwishes : Nat → Int32) (vwishMany : Int32) (vsightLeft : Nat → Int32) (vsightRight : Nat → Int32) (vsightHow : Nat → Int32) (vsights : Int32) (vpad : Nat → Int32) (vpadMany : Int32) (vact : Nat → Int32) (vwho : Nat → Int32) (vwhich : Nat → Int32) (vwhom : Nat → Int32) (vacts : Int32) (vplace : Int32) (vopenMany : Int32) (vended : Int32) (vspoken : Int32) (vheaviest : Int32) (vheaviestWeight : Int32) (vhad : Nat → Int32) (vbadAct : Int32) (vbadWhy : Int32) (vbrings : Nat → Int64) (vbringsThen : Nat → Int64) (vkept : Nat → Int32) (visKept : Nat → Int32) (vkeptAt : Int32) (visWriting : Int32) (p0 : Int32) (out : Int32 × (Nat → Int32) × (Nat → Int32) × (Nat → Int32) × (Nat → Int32) × (Nat → Int32) × (Nat → Int32) × Int32 × (Nat → Int32) × (Nat → Int32) × (Nat → Int32) × Int32 × (Nat → Int32) × (Nat → Int32) × Int32 × Int32) (hf : f_X5_image vweight vkind vrhymes vpurse vhas vwishes vwishMany vsightLeft vsightRight vsightHow vsights vkept visKept vkeptAt visWriting p0 = some out) : kI l D K .int yX5_image wsX5_image rmX5_image [.ref (q 0), .int p0] (mdW K q vweight vkind vrhymes vpurse vhas vwishes vwishMany vsightLeft vsightRight vsightHow vsights vpad vpadMany vact vwho vwhich vwhom vacts vplace vopenMany vended vspoken vheaviest vheaviestWeight vhad vbadAct vbadWhy vbrings vbringsThen vkept visKept vkeptAt visWriting) out.1 (mdW K q out.2.1 out.2.2.1 out.2.2.2.1 out.2.2.2.2.1 out.2.2.2.2.2.1 out.2.2.2.2.2.2.1 out.2.2.2.2.2.2.2.1 out.2.2.2.2.2.2.2.2.1 out.2.2.2.2.2.2.2.2.2.1 out.2.2.2.2.2.2.2.2.2.2.1 out.2.2.2.2.2.2.2.2.2.2.2.1 vpad vpadMany vact vwho vwhich vwhom vacts vplace vopenMany vended vspoken vheaviest vheaviestWeight vhad vbadAct vbadWhy vbrings vbringsThen out.2.2.2.2.2.2.2.2.2.2.2.2.1 out.2.2.2.2.2.2.2.2.2.2.2.2.2.1 out.2.2.2.2.2.2.2.2.2.2.2.2.2.2.1 out.2.2.2.2.2.2.2.2.2.2.2.2.2.2.2) := by
  refine kI.of (cc := cX5_image) (maxL := 2) (by decide) rfl (Nat.le_of_ble_eq_true rfl) ?_
  intro p e s m args below meth c A H0 Q ls hx hb hml hown hts hK hN hA hP hD hS hl hret
  have hown : s.vm.findClass RX5 = some m.cls := hown
  have hl : lv_has ls 2 [(0, .ref (q 0)), (1, .int p0)] := hl
  generalize hH : H0 = H at hP ⊢
  have hS : va_S A H0 H [] := by rw [← hH]; exact hS
  clear hH
  unfold f_X5_image at hf
  refine lv_iload_n hx hb dX5_image_0 rfl (lv_at hl 1 rfl) ?_
  refine lv_i2l (v := p0.toInt64) hx hb dX5_image_1 rfl ?_
  refine lv_lconst (v := 0) hx hb dX5_image_2 (by decide) ?_
  refine lv_lconst (v := 1) hx hb dX5_image_3 (by decide) ?_
  obtain ⟨o1, ho1, hf⟩ := bd_el hf
  refine kc0_i (D := D) (va_runS (As := [.long p0.toInt64, .long 0, .long 1]) (rest := []) ⟨hx, hb, hml, hown, hts⟩ ((k_X5_in l D K p0.toInt64 (0) (1) o1 ho1) H.size) (va_cwS 3 hts gX5_image_X5_in rfl rfl rfl yd_X5_in ⟨Nat.le_of_ble_eq_true rfl, Nat.le_of_ble_eq_true rfl⟩) (kPreS va_P_nil (va_D_nil (A := fun _ => True)) hK hN) rfl rfl hl.1 rfl (lv_room (Nat.le_of_ble_eq_true rfl)) dX5_image_4 ⟨Nat.le_of_ble_eq_true rfl, Nat.le_of_ble_eq_true rfl⟩) hP hS hA (fun hzo1 H locs hP hS => ?_)
  refine lv_if_ne (tgt := 13) hx hb dX5_image_7 (by decide) (fun c2 => ?_) (fun c2 => ?_)
  · rw [if_neg c2] at hf
    refine lv_aload_n hx hb dX5_image_13 rfl (lv_at hl 0 rfl) ?_
    refine lv_bipush (v := 90) hx hb dX5_image_14 (by decide) ?_
    refine lv_iload_n hx hb dX5_image_16 rfl (lv_at hl 1 rfl) ?_
    refine lv_imul hx hb dX5_image_17 ?_
    refine va_put (D := D) (ci := 5) (v := .int (90 * p0)) (ty := .int) (C := RX5) (T := TX5) (N := 33) hx hb hts inX5_image_X5 tyX5 tyX5_ok nmX5 hown hK hP hD hS 0 rfl rfl 31 (by decide) (hts (.fieldLink RX5 263 "WordScalesModel" "keptAt" "I") (List.mem_of_getElem? (i := 1) rfl)) (fun _ h9 => h9) rfl (tyX5_ok 31 (by decide)) rfl rfl (Nat.le_of_ble_eq_true rfl) dX5_image_18 (fun H locs hP hD hS => ?_)
    have hP : va_P D vwCl (mdW K q vweight vkind vrhymes vpurse vhas vwishes vwishMany vsightLeft vsightRight vsightHow vsights vpad vpadMany vact vwho vwhich vwhom vacts vplace vopenMany vended vspoken vheaviest vheaviestWeight vhad vbadAct vbadWhy vbrings vbringsThen vkept visKept (90 * p0) visWriting) H := hP
    have hD : va_D A (mdW K q vweight vkind vrhymes vpurse vhas vwishes vwishMany vsightLeft vsightRight vsightHow vsights vpad vpadMany vact vwho vwhich vwhom vacts vplace vopenMany vended vspoken vheaviest vheaviestWeight vhad vbadAct vbadWhy vbrings vbringsThen vkept visKept (90 * p0) visWriting) := hD
    refine lv_aload_n hx hb dX5_image_21 rfl (lv_at hl 0 rfl) ?_
    refine lv_iconst (v := 1) hx hb dX5_image_22 (by decide) ?_
    refine va_put (D := D) (ci := 5) (v := .int 1) (ty := .boolean) (C := RX5) (T := TX5) (N := 33) hx hb hts inX5_image_X5 tyX5 tyX5_ok nmX5 hown hK hP hD hS 0 rfl rfl 32 (by decide) (hts (.fieldLink RX5 259 "WordScalesModel" "isWriting" "Z") (List.mem_of_getElem? (i := 2) rfl)) (fun _ h9 => h9) rfl (tyX5_ok 32 (by decide)) rfl rfl (Nat.le_of_ble_eq_true rfl) dX5_image_23 (fun H locs hP hD hS => ?_)
    have hP : va_P D vwCl (mdW K q vweight vkind vrhymes vpurse vhas vwishes vwishMany vsightLeft vsightRight vsightHow vsights vpad vpadMany vact vwho vwhich vwhom vacts vplace vopenMany vended vspoken vheaviest vheaviestWeight vhad vbadAct vbadWhy vbrings vbringsThen vkept visKept (90 * p0) 1) H := hP
    have hD : va_D A (mdW K q vweight vkind vrhymes vpurse vhas vwishes vwishMany vsightLeft vsightRight vsightHow vsights vpad vpadMany vact vwho vwhich vwhom vacts vplace vopenMany vended vspoken vheaviest vheaviestWeight vhad vbadAct vbadWhy vbrings vbringsThen vkept visKept (90 * p0) 1) := hD
    refine lv_aload_n hx hb dX5_image_26 rfl (lv_at hl 0 rfl) ?_
    obtain ⟨o3, ho3, hf⟩ := ob_el hf
    refine kcw_v (D := D) (va_runV (As := []) (rest := []) ⟨hx, hb, hml, hown, hts⟩ ((k_X5_passAll l D K q vweight vkind vrhymes vpurse vhas vwishes vwishMany vsightLeft vsightRight vsightHow vsights vpad vpadMany vact vwho vwhich vwhom vacts vplace vopenMany vended vspoken vheaviest vheaviestWeight vhad vbadAct vbadWhy vbrings vbringsThen vkept visKept (90 * p0) 1 o3 ho3) H.size) (cwV 0 hts gX5_image_X5_passAll rfl rfl rfl ⟨rfl, yd_X5_passAll⟩ ⟨Nat.le_of_ble_eq_true rfl, Nat.le_of_ble_eq_true rfl⟩) (kPreV (ci := 5) (q0 := 0) hP rfl rfl hP hD hK hN) rfl rfl hl.1 rfl (lv_room (Nat.le_of_ble_eq_true rfl)) dX5_image_27 ⟨Nat.le_of_ble_eq_true rfl, Nat.le_of_ble_eq_true rfl⟩) hD hS hA (fun H locs hP hD hS => ?_)
    have hP : va_P D vwCl (mdW K q o3.1 o3.2.1 o3.2.2.1 o3.2.2.2.1 o3.2.2.2.2.1 o3.2.2.2.2.2.1 o3.2.2.2.2.2.2.1 o3.2.2.2.2.2.2.2.1 o3.2.2.2.2.2.2.2.2.1 o3.2.2.2.2.2.2.2.2.2.1 o3.2.2.2.2.2.2.2.2.2.2.1 vpad vpadMany vact vwho vwhich vwhom vacts vplace vopenMany vended vspoken vheaviest vheaviestWeight vhad vbadAct vbadWhy vbrings vbringsThen o3.2.2.2.2.2.2.2.2.2.2.2.1 visKept o3.2.2.2.2.2.2.2.2.2.2.2.2 1) H := hP
    have hD : va_D A (mdW K q o3.1 o3.2.1 o3.2.2.1 o3.2.2.2.1 o3.2.2.2.2.1 o3.2.2.2.2.2.1 o3.2.2.2.2.2.2.1 o3.2.2.2.2.2.2.2.1 o3.2.2.2.2.2.2.2.2.1 o3.2.2.2.2.2.2.2.2.2.1 o3.2.2.2.2.2.2.2.2.2.2.1 vpad vpadMany vact vwho vwhich vwhom vacts vplace vopenMany vended vspoken vheaviest vheaviestWeight vhad vbadAct vbadWhy vbrings vbringsThen o3.2.2.2.2.2.2.2.2.2.2.2.1 visKept o3.2.2.2.2.2.2.2.2.2.2.2.2 1) := hD
    refine lv_aload_n hx hb dX5_image_30 rfl (lv_at hl 0 rfl) ?_
    refine va_get (D := D) (ci := 5) (v := .ref (q 19)) (C := RX5) (T := TX5) (N := 33) hx hb hts inX5_image_X5 hown hK hP 0 rfl rfl 30 (by decide) (hts (.fieldLink RX5 65 "WordScalesModel" "isKept" "[Z") (List.mem_of_getElem? (i := 3) rfl)) (fun _ h9 => h9) rfl dX5_image_31 ?_
    refine lv_iload_n hx hb dX5_image_34 rfl (lv_at hl 1 rfl) ?_
    refine lv_iconst (v := 1) hx hb dX5_image_35 (by decide) ?_
    obtain ⟨v4, hf⟩ := chk_el hf
    refine va_zast (D := D) (f := visKept) hx hb hK hP hD hS 19 2 rfl rfl v4 dX5_image_36 (fun H locs hP hD hS => ?_)
    have hP : va_P D vwCl (mdW K q o3.1 o3.2.1 o3.2.2.1 o3.2.2.2.1 o3.2.2.2.2.1 o3.2.2.2.2.2.1 o3.2.2.2.2.2.2.1 o3.2.2.2.2.2.2.2.1 o3.2.2.2.2.2.2.2.2.1 o3.2.2.2.2.2.2.2.2.2.1 o3.2.2.2.2.2.2.2.2.2.2.1 vpad vpadMany vact vwho vwhich vwhom vacts vplace vopenMany vended vspoken vheaviest vheaviestWeight vhad vbadAct vbadWhy vbrings vbringsThen o3.2.2.2.2.2.2.2.2.2.2.2.1 (upd visKept (p0).toNatClampNeg (vp_nar .boolean 1)) o3.2.2.2.2.2.2.2.2.2.2.2.2 1) H := hP
    have hD : va_D A (mdW K q o3.1 o3.2.1 o3.2.2.1 o3.2.2.2.1 o3.2.2.2.2.1 o3.2.2.2.2.2.1 o3.2.2.2.2.2.2.1 o3.2.2.2.2.2.2.2.1 o3.2.2.2.2.2.2.2.2.1 o3.2.2.2.2.2.2.2.2.2.1 o3.2.2.2.2.2.2.2.2.2.2.1 vpad vpadMany vact vwho vwhich vwhom vacts vplace vopenMany vended vspoken vheaviest vheaviestWeight vhad vbadAct vbadWhy vbrings vbringsThen o3.2.2.2.2.2.2.2.2.2.2.2.1 (upd visKept (p0).toNatClampNeg (vp_nar .boolean 1)) o3.2.2.2.2.2.2.2.2.2.2.2.2 1) := hD
    refine lv_iconst (v := 1) hx hb dX5_image_37 (by decide) ?_
    obtain rfl := Option.some.inj hf
    exact hret rfl rfl rfl hP hD hS dX5_image_38
  · rw [if_pos c2] at hf
    refine lv_bipush (v := (-2)) hx hb dX5_image_10 (by decide) ?_
    obtain rfl := Option.some.inj hf
    exact hret rfl rfl rfl hP hD hS dX5_image_12
def f_X5_restore (vweight : Nat → Int32) (vkind : Nat → Int32) (vrhymes : Nat → Int32) (vpurse : Nat → Int32) (vhas : Nat → Int32) (vwishes : Nat → Int32) (vwishMany : Int32) (vsightLeft : Nat → Int32) (vsightRight : Nat → Int32) (vsightHow : Nat → Int32) (vsights : Int32) (vkept : Nat → Int32) (visKept : Nat → Int32) (vkeptAt : Int32) (visWriting : Int32) (p0 : Int32) : Option (Int32 × (Nat → Int32) × (Nat → Int32) × (Nat → Int32) × (Nat → Int32) × (Nat → Int32) × (Nat → Int32) × Int32 × (Nat → Int32) × (Nat → Int32) × (Nat → Int32) × Int32 × (Nat → Int32) × Int32 × Int32) := bd (f_X5_in p0.toInt64 (0) (1)) (fun o1 => if o1 = 0 then (some ((-2), vweight, vkind, vrhymes, vpurse, vhas, vwishes, vwishMany, vsightLeft, vsightRight, vsightHow, vsights, vkept, vkeptAt, visWriting)) else (chk p0 2 (if (visKept (p0).toNatClampNeg) = 0 then (some ((-3), vweight, vkind, vrhymes, vpurse, vhas, vwishes, vwishMany, vsightLeft, vsightRight, vsightHow, vsights, vkept, vkeptAt, visWriting)) else (ob (f_X5_passAll vweight vkind vrhymes vpurse vhas vwishes vwishMany vsightLeft vsightRight vsightHow vsights vkept (90 * p0) 0) (fun o5 => some (1, o5.1, o5.2.1, o5.2.2.1, o5.2.2.2.1, o5.2.2.2.2.1, o5.2.2.2.2.2.1, o5.2.2.2.2.2.2.1, o5.2.2.2.2.2.2.2.1, o5.2.2.2.2.2.2.2.2.1, o5.2.2.2.2.2.2.2.2.2.1, o5.2.2.2.2.2.2.2.2.2.2.1, o5.2.2.2.2.2.2.2.2.2.2.2.1, o5.2.2.2.2.2.2.2.2.2.2.2.2, 0))))))
theorem inX5_restore_X5 : ∀ w ∈ wsX50, w ∈ wsX5_restore := fun w h => List.mem_cons_of_mem _ (List.mem_append_right _ h)
theorem yd_X5_restore : yX5_restore.cls ≠ "java/lang/invoke/MethodHandle" ∧ yX5_restore.cls ≠ "java/lang/invoke/VarHandle" ∧ (parseMethodDescriptor yX5_restore.desc).map (fun d => d.parameters.length) = some 1 := by decide +kernel
abbrev rmX5_restore : Room := { frames := 3, cells := 0, slots := 0, locals := 65 }
set_option maxHeartbeats 4000000 in
set_option maxRecDepth 100000 in
theorem k_X5_restore (l : Launch) (D : va_G) (K : Nat → ClassId) (q : Nat → Nat) (vweight : Nat → Int32) (vkind : Nat → Int32) (vrhymes : Nat → Int32) (vpurse : Nat → Int32) (vhas : Nat → Int32) (vwishes : Nat → Int32) (vwishMany : Int32) (vsightLeft : Nat → Int32) (vsightRight : Nat → Int32) (vsightHow : Nat → Int32) (vsights : Int32) (vpad : Nat → Int32) (vpadMany : Int32) (vact : Nat → Int32) (vwho : Nat → Int32) (vwhich : Nat → Int32) (vwhom : Nat → Int32) (vacts : Int32) (vplace : Int32) (vopenMany : Int32) (vended : Int32) (vspoken : Int32) (vheaviest : Int32) (vheaviestWeight : Int32) (vhad : Nat → Int32) (vbadAct : Int32) (vbadWhy : Int32) (vbrings : Nat → Int64) (vbringsThen : Nat → Int64) (vkept : Nat → Int32) (visKept : Nat → Int32) (vkeptAt : Int32) (visWriting : Int32) (p0 : Int32) (out : Int32 × (Nat → Int32) × (Nat → Int32) × (Nat → Int32) × (Nat → Int32) × (Nat → Int32) × (Nat → Int32) × Int32 × (Nat → Int32) × (Nat → Int32) × (Nat → Int32) × Int32 × (Nat → Int32) × Int32 × Int32) (hf : f_X5_restore vweight vkind vrhymes vpurse vhas vwishes vwishMany vsightLeft vsightRight vsightHow vsights vkept visKept vkeptAt visWriting p0 = some out) : kI l D K .int yX5_restore wsX5_restore rmX5_restore [.ref (q 0), .int p0] (mdW K q vweight vkind vrhymes vpurse vhas vwishes vwishMany vsightLeft vsightRight vsightHow vsights vpad vpadMany vact vwho vwhich vwhom vacts vplace vopenMany vended vspoken vheaviest vheaviestWeight vhad vbadAct vbadWhy vbrings vbringsThen vkept visKept vkeptAt visWriting) out.1 (mdW K q out.2.1 out.2.2.1 out.2.2.2.1 out.2.2.2.2.1 out.2.2.2.2.2.1 out.2.2.2.2.2.2.1 out.2.2.2.2.2.2.2.1 out.2.2.2.2.2.2.2.2.1 out.2.2.2.2.2.2.2.2.2.1 out.2.2.2.2.2.2.2.2.2.2.1 out.2.2.2.2.2.2.2.2.2.2.2.1 vpad vpadMany vact vwho vwhich vwhom vacts vplace vopenMany vended vspoken vheaviest vheaviestWeight vhad vbadAct vbadWhy vbrings vbringsThen out.2.2.2.2.2.2.2.2.2.2.2.2.1 visKept out.2.2.2.2.2.2.2.2.2.2.2.2.2.1 out.2.2.2.2.2.2.2.2.2.2.2.2.2.2) := by
  refine kI.of (cc := cX5_restore) (maxL := 2) (by decide) rfl (Nat.le_of_ble_eq_true rfl) ?_
  intro p e s m args below meth c A H0 Q ls hx hb hml hown hts hK hN hA hP hD hS hl hret
  have hown : s.vm.findClass RX5 = some m.cls := hown
  have hl : lv_has ls 2 [(0, .ref (q 0)), (1, .int p0)] := hl
  generalize hH : H0 = H at hP ⊢
  have hS : va_S A H0 H [] := by rw [← hH]; exact hS
  clear hH
  unfold f_X5_restore at hf
  refine lv_iload_n hx hb dX5_restore_0 rfl (lv_at hl 1 rfl) ?_
  refine lv_i2l (v := p0.toInt64) hx hb dX5_restore_1 rfl ?_
  refine lv_lconst (v := 0) hx hb dX5_restore_2 (by decide) ?_
  refine lv_lconst (v := 1) hx hb dX5_restore_3 (by decide) ?_
  obtain ⟨o1, ho1, hf⟩ := bd_el hf
  refine kc0_i (D := D) (va_runS (As := [.long p0.toInt64, .long 0, .long 1]) (rest := []) ⟨hx, hb, hml, hown, hts⟩ ((k_X5_in l D K p0.toInt64 (0) (1) o1 ho1) H.size) (va_cwS 3 hts gX5_restore_X5_in rfl rfl rfl yd_X5_in ⟨Nat.le_of_ble_eq_true rfl, Nat.le_of_ble_eq_true rfl⟩) (kPreS va_P_nil (va_D_nil (A := fun _ => True)) hK hN) rfl rfl hl.1 rfl (lv_room (Nat.le_of_ble_eq_true rfl)) dX5_restore_4 ⟨Nat.le_of_ble_eq_true rfl, Nat.le_of_ble_eq_true rfl⟩) hP hS hA (fun hzo1 H locs hP hS => ?_)
  refine lv_if_ne (tgt := 13) hx hb dX5_restore_7 (by decide) (fun c2 => ?_) (fun c2 => ?_)
  · rw [if_neg c2] at hf
    refine lv_aload_n hx hb dX5_restore_13 rfl (lv_at hl 0 rfl) ?_
    refine va_get (D := D) (ci := 5) (v := .ref (q 19)) (C := RX5) (T := TX5) (N := 33) hx hb hts inX5_restore_X5 hown hK hP 0 rfl rfl 30 (by decide) (hts (.fieldLink RX5 65 "WordScalesModel" "isKept" "[Z") (List.mem_of_getElem? (i := 1) rfl)) (fun _ h9 => h9) rfl dX5_restore_14 ?_
    refine lv_iload_n hx hb dX5_restore_17 rfl (lv_at hl 1 rfl) ?_
    obtain ⟨v3, hf⟩ := chk_el hf
    refine va_zald (D := D) (f := visKept) hx hb hK hP 19 2 rfl rfl v3 dX5_restore_18 ?_
    refine lv_if_ne (tgt := 25) hx hb dX5_restore_19 (by decide) (fun c4 => ?_) (fun c4 => ?_)
    · rw [if_neg c4] at hf
      refine lv_aload_n hx hb dX5_restore_25 rfl (lv_at hl 0 rfl) ?_
      refine lv_bipush (v := 90) hx hb dX5_restore_26 (by decide) ?_
      refine lv_iload_n hx hb dX5_restore_28 rfl (lv_at hl 1 rfl) ?_
      refine lv_imul hx hb dX5_restore_29 ?_
      refine va_put (D := D) (ci := 5) (v := .int (90 * p0)) (ty := .int) (C := RX5) (T := TX5) (N := 33) hx hb hts inX5_restore_X5 tyX5 tyX5_ok nmX5 hown hK hP hD hS 0 rfl rfl 31 (by decide) (hts (.fieldLink RX5 263 "WordScalesModel" "keptAt" "I") (List.mem_of_getElem? (i := 2) rfl)) (fun _ h9 => h9) rfl (tyX5_ok 31 (by decide)) rfl rfl (Nat.le_of_ble_eq_true rfl) dX5_restore_30 (fun H locs hP hD hS => ?_)
      have hP : va_P D vwCl (mdW K q vweight vkind vrhymes vpurse vhas vwishes vwishMany vsightLeft vsightRight vsightHow vsights vpad vpadMany vact vwho vwhich vwhom vacts vplace vopenMany vended vspoken vheaviest vheaviestWeight vhad vbadAct vbadWhy vbrings vbringsThen vkept visKept (90 * p0) visWriting) H := hP
      have hD : va_D A (mdW K q vweight vkind vrhymes vpurse vhas vwishes vwishMany vsightLeft vsightRight vsightHow vsights vpad vpadMany vact vwho vwhich vwhom vacts vplace vopenMany vended vspoken vheaviest vheaviestWeight vhad vbadAct vbadWhy vbrings vbringsThen vkept visKept (90 * p0) visWriting) := hD
      refine lv_aload_n hx hb dX5_restore_33 rfl (lv_at hl 0 rfl) ?_
      refine lv_iconst (v := 0) hx hb dX5_restore_34 (by decide) ?_
      refine va_put (D := D) (ci := 5) (v := .int 0) (ty := .boolean) (C := RX5) (T := TX5) (N := 33) hx hb hts inX5_restore_X5 tyX5 tyX5_ok nmX5 hown hK hP hD hS 0 rfl rfl 32 (by decide) (hts (.fieldLink RX5 259 "WordScalesModel" "isWriting" "Z") (List.mem_of_getElem? (i := 3) rfl)) (fun _ h9 => h9) rfl (tyX5_ok 32 (by decide)) rfl rfl (Nat.le_of_ble_eq_true rfl) dX5_restore_35 (fun H locs hP hD hS => ?_)
      have hP : va_P D vwCl (mdW K q vweight vkind vrhymes vpurse vhas vwishes vwishMany vsightLeft vsightRight vsightHow vsights vpad vpadMany vact vwho vwhich vwhom vacts vplace vopenMany vended vspoken vheaviest vheaviestWeight vhad vbadAct vbadWhy vbrings vbringsThen vkept visKept (90 * p0) 0) H := hP
      have hD : va_D A (mdW K q vweight vkind vrhymes vpurse vhas vwishes vwishMany vsightLeft vsightRight vsightHow vsights vpad vpadMany vact vwho vwhich vwhom vacts vplace vopenMany vended vspoken vheaviest vheaviestWeight vhad vbadAct vbadWhy vbrings vbringsThen vkept visKept (90 * p0) 0) := hD
      refine lv_aload_n hx hb dX5_restore_38 rfl (lv_at hl 0 rfl) ?_
      obtain ⟨o5, ho5, hf⟩ := ob_el hf
      refine kcw_v (D := D) (va_runV (As := []) (rest := []) ⟨hx, hb, hml, hown, hts⟩ ((k_X5_passAll l D K q vweight vkind vrhymes vpurse vhas vwishes vwishMany vsightLeft vsightRight vsightHow vsights vpad vpadMany vact vwho vwhich vwhom vacts vplace vopenMany vended vspoken vheaviest vheaviestWeight vhad vbadAct vbadWhy vbrings vbringsThen vkept visKept (90 * p0) 0 o5 ho5) H.size) (cwV 0 hts gX5_restore_X5_passAll rfl rfl rfl ⟨rfl, yd_X5_passAll⟩ ⟨Nat.le_of_ble_eq_true rfl, Nat.le_of_ble_eq_true rfl⟩) (kPreV (ci := 5) (q0 := 0) hP rfl rfl hP hD hK hN) rfl rfl hl.1 rfl (lv_room (Nat.le_of_ble_eq_true rfl)) dX5_restore_39 ⟨Nat.le_of_ble_eq_true rfl, Nat.le_of_ble_eq_true rfl⟩) hD hS hA (fun H locs hP hD hS => ?_)
      have hP : va_P D vwCl (mdW K q o5.1 o5.2.1 o5.2.2.1 o5.2.2.2.1 o5.2.2.2.2.1 o5.2.2.2.2.2.1 o5.2.2.2.2.2.2.1 o5.2.2.2.2.2.2.2.1 o5.2.2.2.2.2.2.2.2.1 o5.2.2.2.2.2.2.2.2.2.1 o5.2.2.2.2.2.2.2.2.2.2.1 vpad vpadMany vact vwho vwhich vwhom vacts vplace vopenMany vended vspoken vheaviest vheaviestWeight vhad vbadAct vbadWhy vbrings vbringsThen o5.2.2.2.2.2.2.2.2.2.2.2.1 visKept o5.2.2.2.2.2.2.2.2.2.2.2.2 0) H := hP
      have hD : va_D A (mdW K q o5.1 o5.2.1 o5.2.2.1 o5.2.2.2.1 o5.2.2.2.2.1 o5.2.2.2.2.2.1 o5.2.2.2.2.2.2.1 o5.2.2.2.2.2.2.2.1 o5.2.2.2.2.2.2.2.2.1 o5.2.2.2.2.2.2.2.2.2.1 o5.2.2.2.2.2.2.2.2.2.2.1 vpad vpadMany vact vwho vwhich vwhom vacts vplace vopenMany vended vspoken vheaviest vheaviestWeight vhad vbadAct vbadWhy vbrings vbringsThen o5.2.2.2.2.2.2.2.2.2.2.2.1 visKept o5.2.2.2.2.2.2.2.2.2.2.2.2 0) := hD
      refine lv_iconst (v := 1) hx hb dX5_restore_42 (by decide) ?_
      obtain rfl := Option.some.inj hf
      exact hret rfl rfl rfl hP hD hS dX5_restore_43
    · rw [if_pos c4] at hf
      refine lv_bipush (v := (-3)) hx hb dX5_restore_22 (by decide) ?_
      obtain rfl := Option.some.inj hf
      exact hret rfl rfl rfl hP hD hS dX5_restore_24
  · rw [if_pos c2] at hf
    refine lv_bipush (v := (-2)) hx hb dX5_restore_10 (by decide) ?_
    obtain rfl := Option.some.inj hf
    exact hret rfl rfl rfl hP hD hS dX5_restore_12
def f_X5_toldOfWord (vweight : Nat → Int32) (vkind : Nat → Int32) (vrhymes : Nat → Int32) (p0 : Int32) (p1 : Int32) : Option (Int32) := if p1 = 0 then (chk p0 12 (some (vweight (p0).toNatClampNeg))) else (if p1 = 1 then (chk p0 12 (some (vkind (p0).toNatClampNeg))) else (if p1 = 2 then (ob (f_X5_rhymesOf vrhymes p0) (fun o4 => some o4)) else (some (-2))))
theorem inX5_toldOfWord_X5 : ∀ w ∈ wsX50, w ∈ wsX5_toldOfWord := fun w h => List.mem_cons_of_mem _ (List.mem_append_right _ h)
theorem yd_X5_toldOfWord : yX5_toldOfWord.cls ≠ "java/lang/invoke/MethodHandle" ∧ yX5_toldOfWord.cls ≠ "java/lang/invoke/VarHandle" ∧ (parseMethodDescriptor yX5_toldOfWord.desc).map (fun d => d.parameters.length) = some 2 := by decide +kernel
abbrev rmX5_toldOfWord : Room := { frames := 1, cells := 0, slots := 0, locals := 23 }
set_option maxHeartbeats 4000000 in
set_option maxRecDepth 100000 in
theorem k_X5_toldOfWord (l : Launch) (D : va_G) (K : Nat → ClassId) (q : Nat → Nat) (vweight : Nat → Int32) (vkind : Nat → Int32) (vrhymes : Nat → Int32) (vpurse : Nat → Int32) (vhas : Nat → Int32) (vwishes : Nat → Int32) (vwishMany : Int32) (vsightLeft : Nat → Int32) (vsightRight : Nat → Int32) (vsightHow : Nat → Int32) (vsights : Int32) (vpad : Nat → Int32) (vpadMany : Int32) (vact : Nat → Int32) (vwho : Nat → Int32) (vwhich : Nat → Int32) (vwhom : Nat → Int32) (vacts : Int32) (vplace : Int32) (vopenMany : Int32) (vended : Int32) (vspoken : Int32) (vheaviest : Int32) (vheaviestWeight : Int32) (vhad : Nat → Int32) (vbadAct : Int32) (vbadWhy : Int32) (vbrings : Nat → Int64) (vbringsThen : Nat → Int64) (vkept : Nat → Int32) (visKept : Nat → Int32) (vkeptAt : Int32) (visWriting : Int32) (p0 : Int32) (p1 : Int32) (out : Int32) (hf : f_X5_toldOfWord vweight vkind vrhymes p0 p1 = some out) : kI l D K .int yX5_toldOfWord wsX5_toldOfWord rmX5_toldOfWord [.ref (q 0), .int p0, .int p1] (mdW K q vweight vkind vrhymes vpurse vhas vwishes vwishMany vsightLeft vsightRight vsightHow vsights vpad vpadMany vact vwho vwhich vwhom vacts vplace vopenMany vended vspoken vheaviest vheaviestWeight vhad vbadAct vbadWhy vbrings vbringsThen vkept visKept vkeptAt visWriting) out (mdW K q vweight vkind vrhymes vpurse vhas vwishes vwishMany vsightLeft vsightRight vsightHow vsights vpad vpadMany vact vwho vwhich vwhom vacts vplace vopenMany vended vspoken vheaviest vheaviestWeight vhad vbadAct vbadWhy vbrings vbringsThen vkept visKept vkeptAt visWriting) := by
  refine kI.of (cc := cX5_toldOfWord) (maxL := 3) (by decide) rfl (Nat.le_of_ble_eq_true rfl) ?_
  intro p e s m args below meth c A H0 Q ls hx hb hml hown hts hK hN hA hP hD hS hl hret
  have hown : s.vm.findClass RX5 = some m.cls := hown
  have hl : lv_has ls 3 [(0, .ref (q 0)), (1, .int p0), (2, .int p1)] := hl
  generalize hH : H0 = H at hP ⊢
  have hS : va_S A H0 H [] := by rw [← hH]; exact hS
  clear hH
  unfold f_X5_toldOfWord at hf
  refine lv_iload_n hx hb dX5_toldOfWord_0 rfl (lv_at hl 2 rfl) ?_
  refine lv_if_ne (tgt := 13) hx hb dX5_toldOfWord_1 (by decide) (fun c1 => ?_) (fun c1 => ?_)
  · rw [if_neg c1] at hf
    refine lv_iload_n hx hb dX5_toldOfWord_13 rfl (lv_at hl 2 rfl) ?_
    refine lv_iconst (v := 1) hx hb dX5_toldOfWord_14 (by decide) ?_
    refine lv_icmp_ne (tgt := 27) hx hb dX5_toldOfWord_15 (by decide) (fun c2 => ?_) (fun c2 => ?_)
    · rw [if_neg c2] at hf
      refine lv_iload_n hx hb dX5_toldOfWord_27 rfl (lv_at hl 2 rfl) ?_
      refine lv_iconst (v := 2) hx hb dX5_toldOfWord_28 (by decide) ?_
      refine lv_icmp_ne (tgt := 40) hx hb dX5_toldOfWord_29 (by decide) (fun c3 => ?_) (fun c3 => ?_)
      · rw [if_neg c3] at hf
        refine lv_bipush (v := (-2)) hx hb dX5_toldOfWord_40 (by decide) ?_
        obtain rfl := Option.some.inj hf
        exact hret rfl rfl rfl hP hD hS dX5_toldOfWord_42
      · rw [if_pos c3] at hf
        refine lv_aload_n hx hb dX5_toldOfWord_32 rfl (lv_at hl 0 rfl) ?_
        refine lv_iload_n hx hb dX5_toldOfWord_33 rfl (lv_at hl 1 rfl) ?_
        obtain ⟨o4, ho4, hf⟩ := ob_el hf
        refine kcw_i (D := D) (va_runV (As := [.int p0]) (rest := []) ⟨hx, hb, hml, hown, hts⟩ ((k_X5_rhymesOf l D K q vweight vkind vrhymes vpurse vhas vwishes vwishMany vsightLeft vsightRight vsightHow vsights vpad vpadMany vact vwho vwhich vwhom vacts vplace vopenMany vended vspoken vheaviest vheaviestWeight vhad vbadAct vbadWhy vbrings vbringsThen vkept visKept vkeptAt visWriting p0 o4 ho4) H.size) (cwV 1 hts gX5_toldOfWord_X5_rhymesOf rfl rfl rfl ⟨rfl, yd_X5_rhymesOf⟩ ⟨Nat.le_of_ble_eq_true rfl, Nat.le_of_ble_eq_true rfl⟩) (kPreV (ci := 5) (q0 := 0) hP rfl rfl hP hD hK hN) rfl rfl hl.1 rfl (lv_room (Nat.le_of_ble_eq_true rfl)) dX5_toldOfWord_34 ⟨Nat.le_of_ble_eq_true rfl, Nat.le_of_ble_eq_true rfl⟩) hD hS hA (fun hzo4 H locs hP hD hS => ?_)
        have hP : va_P D vwCl (mdW K q vweight vkind vrhymes vpurse vhas vwishes vwishMany vsightLeft vsightRight vsightHow vsights vpad vpadMany vact vwho vwhich vwhom vacts vplace vopenMany vended vspoken vheaviest vheaviestWeight vhad vbadAct vbadWhy vbrings vbringsThen vkept visKept vkeptAt visWriting) H := hP
        have hD : va_D A (mdW K q vweight vkind vrhymes vpurse vhas vwishes vwishMany vsightLeft vsightRight vsightHow vsights vpad vpadMany vact vwho vwhich vwhom vacts vplace vopenMany vended vspoken vheaviest vheaviestWeight vhad vbadAct vbadWhy vbrings vbringsThen vkept visKept vkeptAt visWriting) := hD
        refine lv_goto (tgt := 42) hx hb dX5_toldOfWord_37 (by decide) ?_
        obtain rfl := Option.some.inj hf
        exact hret rfl rfl rfl hP hD hS dX5_toldOfWord_42
    · rw [if_pos c2] at hf
      refine lv_aload_n hx hb dX5_toldOfWord_18 rfl (lv_at hl 0 rfl) ?_
      refine va_get (D := D) (ci := 5) (v := .ref (q 2)) (C := RX5) (T := TX5) (N := 33) hx hb hts inX5_toldOfWord_X5 hown hK hP 0 rfl rfl 1 (by decide) (hts (.fieldLink RX5 13 "WordScalesModel" "kind" "[I") (List.mem_of_getElem? (i := 2) rfl)) (fun _ h9 => h9) rfl dX5_toldOfWord_19 ?_
      refine lv_iload_n hx hb dX5_toldOfWord_22 rfl (lv_at hl 1 rfl) ?_
      obtain ⟨v5, hf⟩ := chk_el hf
      refine va_iald (D := D) (f := vkind) hx hb hK hP 2 0 rfl rfl v5 dX5_toldOfWord_23 ?_
      refine lv_goto (tgt := 42) hx hb dX5_toldOfWord_24 (by decide) ?_
      obtain rfl := Option.some.inj hf
      exact hret rfl rfl rfl hP hD hS dX5_toldOfWord_42
  · rw [if_pos c1] at hf
    refine lv_aload_n hx hb dX5_toldOfWord_4 rfl (lv_at hl 0 rfl) ?_
    refine va_get (D := D) (ci := 5) (v := .ref (q 1)) (C := RX5) (T := TX5) (N := 33) hx hb hts inX5_toldOfWord_X5 hown hK hP 0 rfl rfl 0 (by decide) (hts (.fieldLink RX5 7 "WordScalesModel" "weight" "[I") (List.mem_of_getElem? (i := 1) rfl)) (fun _ h9 => h9) rfl dX5_toldOfWord_5 ?_
    refine lv_iload_n hx hb dX5_toldOfWord_8 rfl (lv_at hl 1 rfl) ?_
    obtain ⟨v6, hf⟩ := chk_el hf
    refine va_iald (D := D) (f := vweight) hx hb hK hP 1 0 rfl rfl v6 dX5_toldOfWord_9 ?_
    refine lv_goto (tgt := 42) hx hb dX5_toldOfWord_10 (by decide) ?_
    obtain rfl := Option.some.inj hf
    exact hret rfl rfl rfl hP hD hS dX5_toldOfWord_42
def f_X5_told (vweight : Nat → Int32) (vkind : Nat → Int32) (vrhymes : Nat → Int32) (vpurse : Nat → Int32) (vhas : Nat → Int32) (vwishMany : Int32) (vsights : Int32) (vpadMany : Int32) (p0 : Int32) : Option (Int32) := bd (f_X5_in p0.toInt64 (100) (219)) (fun o1 => if o1 = 0 then (bd (f_X5_in p0.toInt64 (10) (13)) (fun o3 => if o3 = 0 then (bd (f_X5_in p0.toInt64 (20) (23)) (fun o5 => if o5 = 0 then (if p0 = 0 then (some vpadMany) else (if p0 = 1 then (some vwishMany) else (if p0 = 2 then (some vsights) else (some (-2))))) else (chk (p0 - 20) 4 (some (vhas ((p0 - 20)).toNatClampNeg))))) else (chk (p0 - 10) 4 (some (vpurse ((p0 - 10)).toNatClampNeg))))) else (ob (f_X5_toldOfWord vweight vkind vrhymes ((p0 - 100) / 10) (p0 - p0 / 10 * 10)) (fun o12 => some o12)))
theorem inX5_told_X5 : ∀ w ∈ wsX50, w ∈ wsX5_told := fun w h => List.mem_cons_of_mem _ (List.mem_append_right _ h)
theorem yd_X5_told : yX5_told.cls ≠ "java/lang/invoke/MethodHandle" ∧ yX5_told.cls ≠ "java/lang/invoke/VarHandle" ∧ (parseMethodDescriptor yX5_told.desc).map (fun d => d.parameters.length) = some 1 := by decide +kernel
abbrev rmX5_told : Room := { frames := 2, cells := 0, slots := 0, locals := 45 }
set_option maxHeartbeats 4000000 in
set_option maxRecDepth 100000 in
theorem k_X5_told (l : Launch) (D : va_G) (K : Nat → ClassId) (q : Nat → Nat) (vweight : Nat → Int32) (vkind : Nat → Int32) (vrhymes : Nat → Int32) (vpurse : Nat → Int32) (vhas : Nat → Int32) (vwishes : Nat → Int32) (vwishMany : Int32) (vsightLeft : Nat → Int32) (vsightRight : Nat → Int32) (vsightHow : Nat → Int32) (vsights : Int32) (vpad : Nat → Int32) (vpadMany : Int32) (vact : Nat → Int32) (vwho : Nat → Int32) (vwhich : Nat → Int32) (vwhom : Nat → Int32) (vacts : Int32) (vplace : Int32) (vopenMany : Int32) (vended : Int32) (vspoken : Int32) (vheaviest : Int32) (vheaviestWeight : Int32) (vhad : Nat → Int32) (vbadAct : Int32) (vbadWhy : Int32) (vbrings : Nat → Int64) (vbringsThen : Nat → Int64) (vkept : Nat → Int32) (visKept : Nat → Int32) (vkeptAt : Int32) (visWriting : Int32) (p0 : Int32) (out : Int32) (hf : f_X5_told vweight vkind vrhymes vpurse vhas vwishMany vsights vpadMany p0 = some out) : kI l D K .int yX5_told wsX5_told rmX5_told [.ref (q 0), .int p0] (mdW K q vweight vkind vrhymes vpurse vhas vwishes vwishMany vsightLeft vsightRight vsightHow vsights vpad vpadMany vact vwho vwhich vwhom vacts vplace vopenMany vended vspoken vheaviest vheaviestWeight vhad vbadAct vbadWhy vbrings vbringsThen vkept visKept vkeptAt visWriting) out (mdW K q vweight vkind vrhymes vpurse vhas vwishes vwishMany vsightLeft vsightRight vsightHow vsights vpad vpadMany vact vwho vwhich vwhom vacts vplace vopenMany vended vspoken vheaviest vheaviestWeight vhad vbadAct vbadWhy vbrings vbringsThen vkept visKept vkeptAt visWriting) := by
  refine kI.of (cc := cX5_told) (maxL := 2) (by decide) rfl (Nat.le_of_ble_eq_true rfl) ?_
  intro p e s m args below meth c A H0 Q ls hx hb hml hown hts hK hN hA hP hD hS hl hret
  have hown : s.vm.findClass RX5 = some m.cls := hown
  have hl : lv_has ls 2 [(0, .ref (q 0)), (1, .int p0)] := hl
  generalize hH : H0 = H at hP ⊢
  have hS : va_S A H0 H [] := by rw [← hH]; exact hS
  clear hH
  unfold f_X5_told at hf
  refine lv_iload_n hx hb dX5_told_0 rfl (lv_at hl 1 rfl) ?_
  refine lv_i2l (v := p0.toInt64) hx hb dX5_told_1 rfl ?_
  refine lv_ldc2 hx hb hown (hts (.constantLong RX5 276 (100)) (List.mem_of_getElem? (i := 1) rfl)) dX5_told_2 ?_
  refine lv_ldc2 hx hb hown (hts (.constantLong RX5 278 (219)) (List.mem_of_getElem? (i := 2) rfl)) dX5_told_5 ?_
  obtain ⟨o1, ho1, hf⟩ := bd_el hf
  refine kc0_i (D := D) (va_runS (As := [.long p0.toInt64, .long 100, .long 219]) (rest := []) ⟨hx, hb, hml, hown, hts⟩ ((k_X5_in l D K p0.toInt64 (100) (219) o1 ho1) H.size) (va_cwS 3 hts gX5_told_X5_in rfl rfl rfl yd_X5_in ⟨Nat.le_of_ble_eq_true rfl, Nat.le_of_ble_eq_true rfl⟩) (kPreS va_P_nil (va_D_nil (A := fun _ => True)) hK hN) rfl rfl hl.1 rfl (lv_room (Nat.le_of_ble_eq_true rfl)) dX5_told_8 ⟨Nat.le_of_ble_eq_true rfl, Nat.le_of_ble_eq_true rfl⟩) hP hS hA (fun hzo1 H locs hP hS => ?_)
  refine lv_if_eq (tgt := 30) hx hb dX5_told_11 (by decide) (fun c2 => ?_) (fun c2 => ?_)
  · rw [if_pos c2] at hf
    refine lv_iload_n hx hb dX5_told_30 rfl (lv_at hl 1 rfl) ?_
    refine lv_i2l (v := p0.toInt64) hx hb dX5_told_31 rfl ?_
    refine lv_ldc2 hx hb hown (hts (.constantLong RX5 238 (10)) (List.mem_of_getElem? (i := 3) rfl)) dX5_told_32 ?_
    refine lv_ldc2 hx hb hown (hts (.constantLong RX5 283 (13)) (List.mem_of_getElem? (i := 4) rfl)) dX5_told_35 ?_
    obtain ⟨o3, ho3, hf⟩ := bd_el hf
    refine kc0_i (D := D) (va_runS (As := [.long p0.toInt64, .long 10, .long 13]) (rest := []) ⟨hx, hb, hml, hown, hts⟩ ((k_X5_in l D K p0.toInt64 (10) (13) o3 ho3) H.size) (va_cwS 3 hts gX5_told_X5_in rfl rfl rfl yd_X5_in ⟨Nat.le_of_ble_eq_true rfl, Nat.le_of_ble_eq_true rfl⟩) (kPreS va_P_nil (va_D_nil (A := fun _ => True)) hK hN) rfl rfl hl.1 rfl (lv_room (Nat.le_of_ble_eq_true rfl)) dX5_told_38 ⟨Nat.le_of_ble_eq_true rfl, Nat.le_of_ble_eq_true rfl⟩) hP hS hA (fun hzo3 H locs hP hS => ?_)
    refine lv_if_eq (tgt := 54) hx hb dX5_told_41 (by decide) (fun c4 => ?_) (fun c4 => ?_)
    · rw [if_pos c4] at hf
      refine lv_iload_n hx hb dX5_told_54 rfl (lv_at hl 1 rfl) ?_
      refine lv_i2l (v := p0.toInt64) hx hb dX5_told_55 rfl ?_
      refine lv_ldc2 hx hb hown (hts (.constantLong RX5 246 (20)) (List.mem_of_getElem? (i := 6) rfl)) dX5_told_56 ?_
      refine lv_ldc2 hx hb hown (hts (.constantLong RX5 285 (23)) (List.mem_of_getElem? (i := 7) rfl)) dX5_told_59 ?_
      obtain ⟨o5, ho5, hf⟩ := bd_el hf
      refine kc0_i (D := D) (va_runS (As := [.long p0.toInt64, .long 20, .long 23]) (rest := []) ⟨hx, hb, hml, hown, hts⟩ ((k_X5_in l D K p0.toInt64 (20) (23) o5 ho5) H.size) (va_cwS 3 hts gX5_told_X5_in rfl rfl rfl yd_X5_in ⟨Nat.le_of_ble_eq_true rfl, Nat.le_of_ble_eq_true rfl⟩) (kPreS va_P_nil (va_D_nil (A := fun _ => True)) hK hN) rfl rfl hl.1 rfl (lv_room (Nat.le_of_ble_eq_true rfl)) dX5_told_62 ⟨Nat.le_of_ble_eq_true rfl, Nat.le_of_ble_eq_true rfl⟩) hP hS hA (fun hzo5 H locs hP hS => ?_)
      refine lv_if_eq (tgt := 78) hx hb dX5_told_65 (by decide) (fun c6 => ?_) (fun c6 => ?_)
      · rw [if_pos c6] at hf
        refine lv_iload_n hx hb dX5_told_78 rfl (lv_at hl 1 rfl) ?_
        refine lv_if_ne (tgt := 89) hx hb dX5_told_79 (by decide) (fun c7 => ?_) (fun c7 => ?_)
        · rw [if_neg c7] at hf
          refine lv_iload_n hx hb dX5_told_89 rfl (lv_at hl 1 rfl) ?_
          refine lv_iconst (v := 1) hx hb dX5_told_90 (by decide) ?_
          refine lv_icmp_ne (tgt := 101) hx hb dX5_told_91 (by decide) (fun c8 => ?_) (fun c8 => ?_)
          · rw [if_neg c8] at hf
            refine lv_iload_n hx hb dX5_told_101 rfl (lv_at hl 1 rfl) ?_
            refine lv_iconst (v := 2) hx hb dX5_told_102 (by decide) ?_
            refine lv_icmp_ne (tgt := 113) hx hb dX5_told_103 (by decide) (fun c9 => ?_) (fun c9 => ?_)
            · rw [if_neg c9] at hf
              refine lv_bipush (v := (-2)) hx hb dX5_told_113 (by decide) ?_
              obtain rfl := Option.some.inj hf
              exact hret rfl rfl rfl hP hD hS dX5_told_115
            · rw [if_pos c9] at hf
              refine lv_aload_n hx hb dX5_told_106 rfl (lv_at hl 0 rfl) ?_
              refine va_get (D := D) (ci := 5) (v := .int vsights) (C := RX5) (T := TX5) (N := 33) hx hb hts inX5_told_X5 hown hK hP 0 rfl rfl 10 (by decide) (hts (.fieldLink RX5 224 "WordScalesModel" "sights" "I") (List.mem_of_getElem? (i := 11) rfl)) (fun _ h9 => h9) rfl dX5_told_107 ?_
              refine lv_goto (tgt := 115) hx hb dX5_told_110 (by decide) ?_
              obtain rfl := Option.some.inj hf
              exact hret rfl rfl rfl hP hD hS dX5_told_115
          · rw [if_pos c8] at hf
            refine lv_aload_n hx hb dX5_told_94 rfl (lv_at hl 0 rfl) ?_
            refine va_get (D := D) (ci := 5) (v := .int vwishMany) (C := RX5) (T := TX5) (N := 33) hx hb hts inX5_told_X5 hown hK hP 0 rfl rfl 6 (by decide) (hts (.fieldLink RX5 218 "WordScalesModel" "wishMany" "I") (List.mem_of_getElem? (i := 10) rfl)) (fun _ h9 => h9) rfl dX5_told_95 ?_
            refine lv_goto (tgt := 115) hx hb dX5_told_98 (by decide) ?_
            obtain rfl := Option.some.inj hf
            exact hret rfl rfl rfl hP hD hS dX5_told_115
        · rw [if_pos c7] at hf
          refine lv_aload_n hx hb dX5_told_82 rfl (lv_at hl 0 rfl) ?_
          refine va_get (D := D) (ci := 5) (v := .int vpadMany) (C := RX5) (T := TX5) (N := 33) hx hb hts inX5_told_X5 hown hK hP 0 rfl rfl 12 (by decide) (hts (.fieldLink RX5 106 "WordScalesModel" "padMany" "I") (List.mem_of_getElem? (i := 9) rfl)) (fun _ h9 => h9) rfl dX5_told_83 ?_
          refine lv_goto (tgt := 115) hx hb dX5_told_86 (by decide) ?_
          obtain rfl := Option.some.inj hf
          exact hret rfl rfl rfl hP hD hS dX5_told_115
      · rw [if_neg c6] at hf
        refine lv_aload_n hx hb dX5_told_68 rfl (lv_at hl 0 rfl) ?_
        refine va_get (D := D) (ci := 5) (v := .ref (q 5)) (C := RX5) (T := TX5) (N := 33) hx hb hts inX5_told_X5 hown hK hP 0 rfl rfl 4 (by decide) (hts (.fieldLink RX5 22 "WordScalesModel" "has" "[I") (List.mem_of_getElem? (i := 8) rfl)) (fun _ h9 => h9) rfl dX5_told_69 ?_
        refine lv_iload_n hx hb dX5_told_72 rfl (lv_at hl 1 rfl) ?_
        refine lv_bipush (v := 20) hx hb dX5_told_73 (by decide) ?_
        refine lv_isub hx hb dX5_told_75 ?_
        obtain ⟨v10, hf⟩ := chk_el hf
        refine va_iald (D := D) (f := vhas) hx hb hK hP 5 0 rfl rfl v10 dX5_told_76 ?_
        obtain rfl := Option.some.inj hf
        exact hret rfl rfl rfl hP hD hS dX5_told_77
    · rw [if_neg c4] at hf
      refine lv_aload_n hx hb dX5_told_44 rfl (lv_at hl 0 rfl) ?_
      refine va_get (D := D) (ci := 5) (v := .ref (q 4)) (C := RX5) (T := TX5) (N := 33) hx hb hts inX5_told_X5 hown hK hP 0 rfl rfl 3 (by decide) (hts (.fieldLink RX5 19 "WordScalesModel" "purse" "[I") (List.mem_of_getElem? (i := 5) rfl)) (fun _ h9 => h9) rfl dX5_told_45 ?_
      refine lv_iload_n hx hb dX5_told_48 rfl (lv_at hl 1 rfl) ?_
      refine lv_bipush (v := 10) hx hb dX5_told_49 (by decide) ?_
      refine lv_isub hx hb dX5_told_51 ?_
      obtain ⟨v11, hf⟩ := chk_el hf
      refine va_iald (D := D) (f := vpurse) hx hb hK hP 4 0 rfl rfl v11 dX5_told_52 ?_
      obtain rfl := Option.some.inj hf
      exact hret rfl rfl rfl hP hD hS dX5_told_53
  · rw [if_neg c2] at hf
    refine lv_aload_n hx hb dX5_told_14 rfl (lv_at hl 0 rfl) ?_
    refine lv_iload_n hx hb dX5_told_15 rfl (lv_at hl 1 rfl) ?_
    refine lv_bipush (v := 100) hx hb dX5_told_16 (by decide) ?_
    refine lv_isub hx hb dX5_told_18 ?_
    refine lv_bipush (v := 10) hx hb dX5_told_19 (by decide) ?_
    refine lv_idiv hx hb dX5_told_21 (by decide) ?_
    refine lv_iload_n hx hb dX5_told_22 rfl (lv_at hl 1 rfl) ?_
    refine lv_bipush (v := 10) hx hb dX5_told_23 (by decide) ?_
    refine lv_irem hx hb dX5_told_25 (by decide) ?_
    obtain ⟨o12, ho12, hf⟩ := ob_el hf
    refine kcw_i (D := D) (va_runV (As := [.int ((p0 - 100) / 10), .int (p0 - p0 / 10 * 10)]) (rest := []) ⟨hx, hb, hml, hown, hts⟩ ((k_X5_toldOfWord l D K q vweight vkind vrhymes vpurse vhas vwishes vwishMany vsightLeft vsightRight vsightHow vsights vpad vpadMany vact vwho vwhich vwhom vacts vplace vopenMany vended vspoken vheaviest vheaviestWeight vhad vbadAct vbadWhy vbrings vbringsThen vkept visKept vkeptAt visWriting ((p0 - 100) / 10) (p0 - p0 / 10 * 10) o12 ho12) H.size) (cwV 2 hts gX5_told_X5_toldOfWord rfl rfl rfl ⟨rfl, yd_X5_toldOfWord⟩ ⟨Nat.le_of_ble_eq_true rfl, Nat.le_of_ble_eq_true rfl⟩) (kPreV (ci := 5) (q0 := 0) hP rfl rfl hP hD hK hN) rfl rfl hl.1 rfl (lv_room (Nat.le_of_ble_eq_true rfl)) dX5_told_26 ⟨Nat.le_of_ble_eq_true rfl, Nat.le_of_ble_eq_true rfl⟩) hD hS hA (fun hzo12 H locs hP hD hS => ?_)
    have hP : va_P D vwCl (mdW K q vweight vkind vrhymes vpurse vhas vwishes vwishMany vsightLeft vsightRight vsightHow vsights vpad vpadMany vact vwho vwhich vwhom vacts vplace vopenMany vended vspoken vheaviest vheaviestWeight vhad vbadAct vbadWhy vbrings vbringsThen vkept visKept vkeptAt visWriting) H := hP
    have hD : va_D A (mdW K q vweight vkind vrhymes vpurse vhas vwishes vwishMany vsightLeft vsightRight vsightHow vsights vpad vpadMany vact vwho vwhich vwhom vacts vplace vopenMany vended vspoken vheaviest vheaviestWeight vhad vbadAct vbadWhy vbrings vbringsThen vkept visKept vkeptAt visWriting) := hD
    obtain rfl := Option.some.inj hf
    exact hret rfl rfl rfl hP hD hS dX5_told_29
