def f_X5_speak (vweight : Nat → Int32) (vkind : Nat → Int32) (vplace : Int32) (vopenMany : Int32) (vspoken : Int32) (vheaviest : Int32) (vheaviestWeight : Int32) (p0 : Int32) : Option ((Nat → Int32) × Int32 × Int32 × Int32 × Int32 × Int32) := chk p0 12 (bd (f_X5_placeThen vplace (vkind (p0).toNatClampNeg)) (fun o2 => if vheaviest < 0 then (if (vweight (p0).toNatClampNeg) ≤ 0 then (some ((upd vweight (p0).toNatClampNeg ((vweight (p0).toNatClampNeg) - 0)), o2, (vopenMany + 1), (vspoken + 1), p0, (vweight (p0).toNatClampNeg))) else (some ((upd vweight (p0).toNatClampNeg ((vweight (p0).toNatClampNeg) - 1)), o2, (vopenMany + 1), (vspoken + 1), p0, (vweight (p0).toNatClampNeg)))) else (if (vweight (p0).toNatClampNeg) ≤ vheaviestWeight then (if (vweight (p0).toNatClampNeg) ≤ 0 then (some ((upd vweight (p0).toNatClampNeg ((vweight (p0).toNatClampNeg) - 0)), o2, (vopenMany + 1), (vspoken + 1), vheaviest, vheaviestWeight)) else (some ((upd vweight (p0).toNatClampNeg ((vweight (p0).toNatClampNeg) - 1)), o2, (vopenMany + 1), (vspoken + 1), vheaviest, vheaviestWeight))) else (if (vweight (p0).toNatClampNeg) ≤ 0 then (some ((upd vweight (p0).toNatClampNeg ((vweight (p0).toNatClampNeg) - 0)), o2, (vopenMany + 1), (vspoken + 1), p0, (vweight (p0).toNatClampNeg))) else (some ((upd vweight (p0).toNatClampNeg ((vweight (p0).toNatClampNeg) - 1)), o2, (vopenMany + 1), (vspoken + 1), p0, (vweight (p0).toNatClampNeg)))))))
theorem inX5_speak_X5 : ∀ w ∈ wsX50, w ∈ wsX5_speak := fun w h => List.mem_cons_of_mem _ (List.mem_append_right _ h)
theorem yd_X5_speak : yX5_speak.cls ≠ "java/lang/invoke/MethodHandle" ∧ yX5_speak.cls ≠ "java/lang/invoke/VarHandle" ∧ (parseMethodDescriptor yX5_speak.desc).map (fun d => d.parameters.length) = some 1 := by decide +kernel
abbrev rmX5_speak : Room := { frames := 1, cells := 0, slots := 0, locals := 21 }
set_option maxHeartbeats 4000000 in
set_option maxRecDepth 100000 in
theorem k_X5_speak (l : Launch) (D : va_G) (K : Nat → ClassId) (q : Nat → Nat) (vweight : Nat → Int32) (vkind : Nat → Int32) (vrhymes : Nat → Int32) (vpurse : Nat → Int32) (vhas : Nat → Int32) (vwishes : Nat → Int32) (vwishMany : Int32) (vsightLeft : Nat → Int32) (vsightRight : Nat → Int32) (vsightHow : Nat → Int32) (vsights : Int32) (vpad : Nat → Int32) (vpadMany : Int32) (vact : Nat → Int32) (vwho : Nat → Int32) (vwhich : Nat → Int32) (vwhom : Nat → Int32) (vacts : Int32) (vplace : Int32) (vopenMany : Int32) (vended : Int32) (vspoken : Int32) (vheaviest : Int32) (vheaviestWeight : Int32) (vhad : Nat → Int32) (vbadAct : Int32) (vbadWhy : Int32) (vbrings : Nat → Int64) (vbringsThen : Nat → Int64) (vkept : Nat → Int32) (visKept : Nat → Int32) (vkeptAt : Int32) (visWriting : Int32) (p0 : Int32) (out : (Nat → Int32) × Int32 × Int32 × Int32 × Int32 × Int32) (hf : f_X5_speak vweight vkind vplace vopenMany vspoken vheaviest vheaviestWeight p0 = some out) : kV l D K yX5_speak wsX5_speak rmX5_speak [.ref (q 0), .int p0] (mdW K q vweight vkind vrhymes vpurse vhas vwishes vwishMany vsightLeft vsightRight vsightHow vsights vpad vpadMany vact vwho vwhich vwhom vacts vplace vopenMany vended vspoken vheaviest vheaviestWeight vhad vbadAct vbadWhy vbrings vbringsThen vkept visKept vkeptAt visWriting) (mdW K q out.1 vkind vrhymes vpurse vhas vwishes vwishMany vsightLeft vsightRight vsightHow vsights vpad vpadMany vact vwho vwhich vwhom vacts out.2.1 out.2.2.1 vended out.2.2.2.1 out.2.2.2.2.1 out.2.2.2.2.2 vhad vbadAct vbadWhy vbrings vbringsThen vkept visKept vkeptAt visWriting) := by
  refine kV.of (cc := cX5_speak) (maxL := 2) (by decide) rfl (Nat.le_of_ble_eq_true rfl) ?_
  intro p e s m args below meth c A H0 Q ls hx hb hml hown hts hK hN hA hP hD hS hl hret
  have hown : s.vm.findClass RX5 = some m.cls := hown
  have hl : lv_has ls 2 [(0, .ref (q 0)), (1, .int p0)] := hl
  generalize hH : H0 = H at hP ⊢
  have hS : va_S A H0 H [] := by rw [← hH]; exact hS
  clear hH
  unfold f_X5_speak at hf
  refine lv_aload_n hx hb dX5_speak_0 rfl (lv_at hl 0 rfl) ?_
  refine lv_dup hx hb dX5_speak_1 rfl ?_
  refine va_get (D := D) (ci := 5) (v := .int vspoken) (C := RX5) (T := TX5) (N := 33) hx hb hts inX5_speak_X5 hown hK hP 0 rfl rfl 21 (by decide) (hts (.fieldLink RX5 142 "WordScalesModel" "spoken" "I") (List.mem_of_getElem? (i := 1) rfl)) (fun _ h9 => h9) rfl dX5_speak_2 ?_
  refine lv_iconst (v := 1) hx hb dX5_speak_5 (by decide) ?_
  refine lv_iadd hx hb dX5_speak_6 ?_
  refine va_put (D := D) (ci := 5) (v := .int (vspoken + 1)) (ty := .int) (C := RX5) (T := TX5) (N := 33) hx hb hts inX5_speak_X5 tyX5 tyX5_ok nmX5 hown hK hP hD hS 0 rfl rfl 21 (by decide) (hts (.fieldLink RX5 142 "WordScalesModel" "spoken" "I") (List.mem_of_getElem? (i := 1) rfl)) (fun _ h9 => h9) rfl (tyX5_ok 21 (by decide)) rfl rfl (Nat.le_of_ble_eq_true rfl) dX5_speak_7 (fun H locs hP hD hS => ?_)
  have hP : va_P D vwCl (mdW K q vweight vkind vrhymes vpurse vhas vwishes vwishMany vsightLeft vsightRight vsightHow vsights vpad vpadMany vact vwho vwhich vwhom vacts vplace vopenMany vended (vspoken + 1) vheaviest vheaviestWeight vhad vbadAct vbadWhy vbrings vbringsThen vkept visKept vkeptAt visWriting) H := hP
  have hD : va_D A (mdW K q vweight vkind vrhymes vpurse vhas vwishes vwishMany vsightLeft vsightRight vsightHow vsights vpad vpadMany vact vwho vwhich vwhom vacts vplace vopenMany vended (vspoken + 1) vheaviest vheaviestWeight vhad vbadAct vbadWhy vbrings vbringsThen vkept visKept vkeptAt visWriting) := hD
  refine lv_aload_n hx hb dX5_speak_10 rfl (lv_at hl 0 rfl) ?_
  refine lv_dup hx hb dX5_speak_11 rfl ?_
  refine va_get (D := D) (ci := 5) (v := .int vopenMany) (C := RX5) (T := TX5) (N := 33) hx hb hts inX5_speak_X5 hown hK hP 0 rfl rfl 19 (by decide) (hts (.fieldLink RX5 145 "WordScalesModel" "openMany" "I") (List.mem_of_getElem? (i := 2) rfl)) (fun _ h9 => h9) rfl dX5_speak_12 ?_
  refine lv_iconst (v := 1) hx hb dX5_speak_15 (by decide) ?_
  refine lv_iadd hx hb dX5_speak_16 ?_
  refine va_put (D := D) (ci := 5) (v := .int (vopenMany + 1)) (ty := .int) (C := RX5) (T := TX5) (N := 33) hx hb hts inX5_speak_X5 tyX5 tyX5_ok nmX5 hown hK hP hD hS 0 rfl rfl 19 (by decide) (hts (.fieldLink RX5 145 "WordScalesModel" "openMany" "I") (List.mem_of_getElem? (i := 2) rfl)) (fun _ h9 => h9) rfl (tyX5_ok 19 (by decide)) rfl rfl (Nat.le_of_ble_eq_true rfl) dX5_speak_17 (fun H locs hP hD hS => ?_)
  have hP : va_P D vwCl (mdW K q vweight vkind vrhymes vpurse vhas vwishes vwishMany vsightLeft vsightRight vsightHow vsights vpad vpadMany vact vwho vwhich vwhom vacts vplace (vopenMany + 1) vended (vspoken + 1) vheaviest vheaviestWeight vhad vbadAct vbadWhy vbrings vbringsThen vkept visKept vkeptAt visWriting) H := hP
  have hD : va_D A (mdW K q vweight vkind vrhymes vpurse vhas vwishes vwishMany vsightLeft vsightRight vsightHow vsights vpad vpadMany vact vwho vwhich vwhom vacts vplace (vopenMany + 1) vended (vspoken + 1) vheaviest vheaviestWeight vhad vbadAct vbadWhy vbrings vbringsThen vkept visKept vkeptAt visWriting) := hD
  refine lv_aload_n hx hb dX5_speak_20 rfl (lv_at hl 0 rfl) ?_
  refine lv_aload_n hx hb dX5_speak_21 rfl (lv_at hl 0 rfl) ?_
  refine lv_aload_n hx hb dX5_speak_22 rfl (lv_at hl 0 rfl) ?_
  refine va_get (D := D) (ci := 5) (v := .ref (q 2)) (C := RX5) (T := TX5) (N := 33) hx hb hts inX5_speak_X5 hown hK hP 0 rfl rfl 1 (by decide) (hts (.fieldLink RX5 13 "WordScalesModel" "kind" "[I") (List.mem_of_getElem? (i := 3) rfl)) (fun _ h9 => h9) rfl dX5_speak_23 ?_
  refine lv_iload_n hx hb dX5_speak_26 rfl (lv_at hl 1 rfl) ?_
  obtain ⟨v1, hf⟩ := chk_el hf
  refine va_iald (D := D) (f := vkind) hx hb hK hP 2 0 rfl rfl v1 dX5_speak_27 ?_
  obtain ⟨o2, ho2, hf⟩ := bd_el hf
  refine kcw_i (D := D) (va_runV (As := [.int (vkind (p0).toNatClampNeg)]) (rest := [.ref (q 0)]) ⟨hx, hb, hml, hown, hts⟩ ((k_X5_placeThen l D K q vweight vkind vrhymes vpurse vhas vwishes vwishMany vsightLeft vsightRight vsightHow vsights vpad vpadMany vact vwho vwhich vwhom vacts vplace (vopenMany + 1) vended (vspoken + 1) vheaviest vheaviestWeight vhad vbadAct vbadWhy vbrings vbringsThen vkept visKept vkeptAt visWriting (vkind (p0).toNatClampNeg) o2 ho2) H.size) (cwV 1 hts gX5_speak_X5_placeThen rfl rfl rfl ⟨rfl, yd_X5_placeThen⟩ ⟨Nat.le_of_ble_eq_true rfl, Nat.le_of_ble_eq_true rfl⟩) (kPreV (ci := 5) (q0 := 0) hP rfl rfl hP hD hK hN) rfl rfl hl.1 rfl (lv_room (Nat.le_of_ble_eq_true rfl)) dX5_speak_28 ⟨Nat.le_of_ble_eq_true rfl, Nat.le_of_ble_eq_true rfl⟩) hD hS hA (fun hzo2 H locs hP hD hS => ?_)
  have hP : va_P D vwCl (mdW K q vweight vkind vrhymes vpurse vhas vwishes vwishMany vsightLeft vsightRight vsightHow vsights vpad vpadMany vact vwho vwhich vwhom vacts vplace (vopenMany + 1) vended (vspoken + 1) vheaviest vheaviestWeight vhad vbadAct vbadWhy vbrings vbringsThen vkept visKept vkeptAt visWriting) H := hP
  have hD : va_D A (mdW K q vweight vkind vrhymes vpurse vhas vwishes vwishMany vsightLeft vsightRight vsightHow vsights vpad vpadMany vact vwho vwhich vwhom vacts vplace (vopenMany + 1) vended (vspoken + 1) vheaviest vheaviestWeight vhad vbadAct vbadWhy vbrings vbringsThen vkept visKept vkeptAt visWriting) := hD
  refine va_put (D := D) (ci := 5) (v := .int o2) (ty := .int) (C := RX5) (T := TX5) (N := 33) hx hb hts inX5_speak_X5 tyX5 tyX5_ok nmX5 hown hK hP hD hS 0 rfl rfl 18 (by decide) (hts (.fieldLink RX5 135 "WordScalesModel" "place" "I") (List.mem_of_getElem? (i := 4) rfl)) (fun _ h9 => h9) rfl (tyX5_ok 18 (by decide)) rfl rfl (Nat.le_of_ble_eq_true rfl) dX5_speak_31 (fun H locs hP hD hS => ?_)
  have hP : va_P D vwCl (mdW K q vweight vkind vrhymes vpurse vhas vwishes vwishMany vsightLeft vsightRight vsightHow vsights vpad vpadMany vact vwho vwhich vwhom vacts o2 (vopenMany + 1) vended (vspoken + 1) vheaviest vheaviestWeight vhad vbadAct vbadWhy vbrings vbringsThen vkept visKept vkeptAt visWriting) H := hP
  have hD : va_D A (mdW K q vweight vkind vrhymes vpurse vhas vwishes vwishMany vsightLeft vsightRight vsightHow vsights vpad vpadMany vact vwho vwhich vwhom vacts o2 (vopenMany + 1) vended (vspoken + 1) vheaviest vheaviestWeight vhad vbadAct vbadWhy vbrings vbringsThen vkept visKept vkeptAt visWriting) := hD
  refine lv_aload_n hx hb dX5_speak_34 rfl (lv_at hl 0 rfl) ?_
  refine va_get (D := D) (ci := 5) (v := .int vheaviest) (C := RX5) (T := TX5) (N := 33) hx hb hts inX5_speak_X5 hown hK hP 0 rfl rfl 22 (by decide) (hts (.fieldLink RX5 151 "WordScalesModel" "heaviest" "I") (List.mem_of_getElem? (i := 5) rfl)) (fun _ h9 => h9) rfl dX5_speak_35 ?_
  refine lv_if_lt (tgt := 54) hx hb dX5_speak_38 (by decide) (fun c3 => ?_) (fun c3 => ?_)
  · rw [if_pos c3] at hf
    refine lv_aload_n hx hb dX5_speak_54 rfl (lv_at hl 0 rfl) ?_
    refine lv_iload_n hx hb dX5_speak_55 rfl (lv_at hl 1 rfl) ?_
    refine va_put (D := D) (ci := 5) (v := .int p0) (ty := .int) (C := RX5) (T := TX5) (N := 33) hx hb hts inX5_speak_X5 tyX5 tyX5_ok nmX5 hown hK hP hD hS 0 rfl rfl 22 (by decide) (hts (.fieldLink RX5 151 "WordScalesModel" "heaviest" "I") (List.mem_of_getElem? (i := 5) rfl)) (fun _ h9 => h9) rfl (tyX5_ok 22 (by decide)) rfl rfl (Nat.le_of_ble_eq_true rfl) dX5_speak_56 (fun H locs hP hD hS => ?_)
    have hP : va_P D vwCl (mdW K q vweight vkind vrhymes vpurse vhas vwishes vwishMany vsightLeft vsightRight vsightHow vsights vpad vpadMany vact vwho vwhich vwhom vacts o2 (vopenMany + 1) vended (vspoken + 1) p0 vheaviestWeight vhad vbadAct vbadWhy vbrings vbringsThen vkept visKept vkeptAt visWriting) H := hP
    have hD : va_D A (mdW K q vweight vkind vrhymes vpurse vhas vwishes vwishMany vsightLeft vsightRight vsightHow vsights vpad vpadMany vact vwho vwhich vwhom vacts o2 (vopenMany + 1) vended (vspoken + 1) p0 vheaviestWeight vhad vbadAct vbadWhy vbrings vbringsThen vkept visKept vkeptAt visWriting) := hD
    refine lv_aload_n hx hb dX5_speak_59 rfl (lv_at hl 0 rfl) ?_
    refine lv_aload_n hx hb dX5_speak_60 rfl (lv_at hl 0 rfl) ?_
    refine va_get (D := D) (ci := 5) (v := .ref (q 1)) (C := RX5) (T := TX5) (N := 33) hx hb hts inX5_speak_X5 hown hK hP 0 rfl rfl 0 (by decide) (hts (.fieldLink RX5 7 "WordScalesModel" "weight" "[I") (List.mem_of_getElem? (i := 6) rfl)) (fun _ h9 => h9) rfl dX5_speak_61 ?_
    refine lv_iload_n hx hb dX5_speak_64 rfl (lv_at hl 1 rfl) ?_
    refine va_iald (D := D) (f := vweight) hx hb hK hP 1 0 rfl rfl v1 dX5_speak_65 ?_
    refine va_put (D := D) (ci := 5) (v := .int (vweight (p0).toNatClampNeg)) (ty := .int) (C := RX5) (T := TX5) (N := 33) hx hb hts inX5_speak_X5 tyX5 tyX5_ok nmX5 hown hK hP hD hS 0 rfl rfl 23 (by decide) (hts (.fieldLink RX5 154 "WordScalesModel" "heaviestWeight" "I") (List.mem_of_getElem? (i := 7) rfl)) (fun _ h9 => h9) rfl (tyX5_ok 23 (by decide)) rfl rfl (Nat.le_of_ble_eq_true rfl) dX5_speak_66 (fun H locs hP hD hS => ?_)
    have hP : va_P D vwCl (mdW K q vweight vkind vrhymes vpurse vhas vwishes vwishMany vsightLeft vsightRight vsightHow vsights vpad vpadMany vact vwho vwhich vwhom vacts o2 (vopenMany + 1) vended (vspoken + 1) p0 (vweight (p0).toNatClampNeg) vhad vbadAct vbadWhy vbrings vbringsThen vkept visKept vkeptAt visWriting) H := hP
    have hD : va_D A (mdW K q vweight vkind vrhymes vpurse vhas vwishes vwishMany vsightLeft vsightRight vsightHow vsights vpad vpadMany vact vwho vwhich vwhom vacts o2 (vopenMany + 1) vended (vspoken + 1) p0 (vweight (p0).toNatClampNeg) vhad vbadAct vbadWhy vbrings vbringsThen vkept visKept vkeptAt visWriting) := hD
    refine lv_aload_n hx hb dX5_speak_69 rfl (lv_at hl 0 rfl) ?_
    refine va_get (D := D) (ci := 5) (v := .ref (q 1)) (C := RX5) (T := TX5) (N := 33) hx hb hts inX5_speak_X5 hown hK hP 0 rfl rfl 0 (by decide) (hts (.fieldLink RX5 7 "WordScalesModel" "weight" "[I") (List.mem_of_getElem? (i := 6) rfl)) (fun _ h9 => h9) rfl dX5_speak_70 ?_
    refine lv_iload_n hx hb dX5_speak_73 rfl (lv_at hl 1 rfl) ?_
    refine lv_dup2_11 hx hb dX5_speak_74 rfl rfl ?_
    refine va_iald (D := D) (f := vweight) hx hb hK hP 1 0 rfl rfl v1 dX5_speak_75 ?_
    refine lv_aload_n hx hb dX5_speak_76 rfl (lv_at hl 0 rfl) ?_
    refine va_get (D := D) (ci := 5) (v := .ref (q 1)) (C := RX5) (T := TX5) (N := 33) hx hb hts inX5_speak_X5 hown hK hP 0 rfl rfl 0 (by decide) (hts (.fieldLink RX5 7 "WordScalesModel" "weight" "[I") (List.mem_of_getElem? (i := 6) rfl)) (fun _ h9 => h9) rfl dX5_speak_77 ?_
    refine lv_iload_n hx hb dX5_speak_80 rfl (lv_at hl 1 rfl) ?_
    refine va_iald (D := D) (f := vweight) hx hb hK hP 1 0 rfl rfl v1 dX5_speak_81 ?_
    refine lv_if_le (tgt := 89) hx hb dX5_speak_82 (by decide) (fun c4 => ?_) (fun c4 => ?_)
    · rw [if_pos c4] at hf
      refine lv_iconst (v := 0) hx hb dX5_speak_89 (by decide) ?_
      refine lv_isub hx hb dX5_speak_90 ?_
      refine va_iast (D := D) (f := vweight) hx hb hK hP hD hS 1 0 rfl rfl v1 dX5_speak_91 (fun H locs hP hD hS => ?_)
      have hP : va_P D vwCl (mdW K q (upd vweight (p0).toNatClampNeg ((vweight (p0).toNatClampNeg) - 0)) vkind vrhymes vpurse vhas vwishes vwishMany vsightLeft vsightRight vsightHow vsights vpad vpadMany vact vwho vwhich vwhom vacts o2 (vopenMany + 1) vended (vspoken + 1) p0 (vweight (p0).toNatClampNeg) vhad vbadAct vbadWhy vbrings vbringsThen vkept visKept vkeptAt visWriting) H := hP
      have hD : va_D A (mdW K q (upd vweight (p0).toNatClampNeg ((vweight (p0).toNatClampNeg) - 0)) vkind vrhymes vpurse vhas vwishes vwishMany vsightLeft vsightRight vsightHow vsights vpad vpadMany vact vwho vwhich vwhom vacts o2 (vopenMany + 1) vended (vspoken + 1) p0 (vweight (p0).toNatClampNeg) vhad vbadAct vbadWhy vbrings vbringsThen vkept visKept vkeptAt visWriting) := hD
      obtain rfl := Option.some.inj hf
      exact hret rfl hP hD hS dX5_speak_92
    · rw [if_neg c4] at hf
      refine lv_iconst (v := 1) hx hb dX5_speak_85 (by decide) ?_
      refine lv_goto (tgt := 90) hx hb dX5_speak_86 (by decide) ?_
      refine lv_isub hx hb dX5_speak_90 ?_
      refine va_iast (D := D) (f := vweight) hx hb hK hP hD hS 1 0 rfl rfl v1 dX5_speak_91 (fun H locs hP hD hS => ?_)
      have hP : va_P D vwCl (mdW K q (upd vweight (p0).toNatClampNeg ((vweight (p0).toNatClampNeg) - 1)) vkind vrhymes vpurse vhas vwishes vwishMany vsightLeft vsightRight vsightHow vsights vpad vpadMany vact vwho vwhich vwhom vacts o2 (vopenMany + 1) vended (vspoken + 1) p0 (vweight (p0).toNatClampNeg) vhad vbadAct vbadWhy vbrings vbringsThen vkept visKept vkeptAt visWriting) H := hP
      have hD : va_D A (mdW K q (upd vweight (p0).toNatClampNeg ((vweight (p0).toNatClampNeg) - 1)) vkind vrhymes vpurse vhas vwishes vwishMany vsightLeft vsightRight vsightHow vsights vpad vpadMany vact vwho vwhich vwhom vacts o2 (vopenMany + 1) vended (vspoken + 1) p0 (vweight (p0).toNatClampNeg) vhad vbadAct vbadWhy vbrings vbringsThen vkept visKept vkeptAt visWriting) := hD
      obtain rfl := Option.some.inj hf
      exact hret rfl hP hD hS dX5_speak_92
  · rw [if_neg c3] at hf
    refine lv_aload_n hx hb dX5_speak_41 rfl (lv_at hl 0 rfl) ?_
    refine va_get (D := D) (ci := 5) (v := .ref (q 1)) (C := RX5) (T := TX5) (N := 33) hx hb hts inX5_speak_X5 hown hK hP 0 rfl rfl 0 (by decide) (hts (.fieldLink RX5 7 "WordScalesModel" "weight" "[I") (List.mem_of_getElem? (i := 6) rfl)) (fun _ h9 => h9) rfl dX5_speak_42 ?_
    refine lv_iload_n hx hb dX5_speak_45 rfl (lv_at hl 1 rfl) ?_
    refine va_iald (D := D) (f := vweight) hx hb hK hP 1 0 rfl rfl v1 dX5_speak_46 ?_
    refine lv_aload_n hx hb dX5_speak_47 rfl (lv_at hl 0 rfl) ?_
    refine va_get (D := D) (ci := 5) (v := .int vheaviestWeight) (C := RX5) (T := TX5) (N := 33) hx hb hts inX5_speak_X5 hown hK hP 0 rfl rfl 23 (by decide) (hts (.fieldLink RX5 154 "WordScalesModel" "heaviestWeight" "I") (List.mem_of_getElem? (i := 7) rfl)) (fun _ h9 => h9) rfl dX5_speak_48 ?_
    refine lv_icmp_le (tgt := 69) hx hb dX5_speak_51 (by decide) (fun c5 => ?_) (fun c5 => ?_)
    · rw [if_pos c5] at hf
      refine lv_aload_n hx hb dX5_speak_69 rfl (lv_at hl 0 rfl) ?_
      refine va_get (D := D) (ci := 5) (v := .ref (q 1)) (C := RX5) (T := TX5) (N := 33) hx hb hts inX5_speak_X5 hown hK hP 0 rfl rfl 0 (by decide) (hts (.fieldLink RX5 7 "WordScalesModel" "weight" "[I") (List.mem_of_getElem? (i := 6) rfl)) (fun _ h9 => h9) rfl dX5_speak_70 ?_
      refine lv_iload_n hx hb dX5_speak_73 rfl (lv_at hl 1 rfl) ?_
      refine lv_dup2_11 hx hb dX5_speak_74 rfl rfl ?_
      refine va_iald (D := D) (f := vweight) hx hb hK hP 1 0 rfl rfl v1 dX5_speak_75 ?_
      refine lv_aload_n hx hb dX5_speak_76 rfl (lv_at hl 0 rfl) ?_
      refine va_get (D := D) (ci := 5) (v := .ref (q 1)) (C := RX5) (T := TX5) (N := 33) hx hb hts inX5_speak_X5 hown hK hP 0 rfl rfl 0 (by decide) (hts (.fieldLink RX5 7 "WordScalesModel" "weight" "[I") (List.mem_of_getElem? (i := 6) rfl)) (fun _ h9 => h9) rfl dX5_speak_77 ?_
      refine lv_iload_n hx hb dX5_speak_80 rfl (lv_at hl 1 rfl) ?_
      refine va_iald (D := D) (f := vweight) hx hb hK hP 1 0 rfl rfl v1 dX5_speak_81 ?_
      refine lv_if_le (tgt := 89) hx hb dX5_speak_82 (by decide) (fun c6 => ?_) (fun c6 => ?_)
      · rw [if_pos c6] at hf
        refine lv_iconst (v := 0) hx hb dX5_speak_89 (by decide) ?_
        refine lv_isub hx hb dX5_speak_90 ?_
        refine va_iast (D := D) (f := vweight) hx hb hK hP hD hS 1 0 rfl rfl v1 dX5_speak_91 (fun H locs hP hD hS => ?_)
        have hP : va_P D vwCl (mdW K q (upd vweight (p0).toNatClampNeg ((vweight (p0).toNatClampNeg) - 0)) vkind vrhymes vpurse vhas vwishes vwishMany vsightLeft vsightRight vsightHow vsights vpad vpadMany vact vwho vwhich vwhom vacts o2 (vopenMany + 1) vended (vspoken + 1) vheaviest vheaviestWeight vhad vbadAct vbadWhy vbrings vbringsThen vkept visKept vkeptAt visWriting) H := hP
        have hD : va_D A (mdW K q (upd vweight (p0).toNatClampNeg ((vweight (p0).toNatClampNeg) - 0)) vkind vrhymes vpurse vhas vwishes vwishMany vsightLeft vsightRight vsightHow vsights vpad vpadMany vact vwho vwhich vwhom vacts o2 (vopenMany + 1) vended (vspoken + 1) vheaviest vheaviestWeight vhad vbadAct vbadWhy vbrings vbringsThen vkept visKept vkeptAt visWriting) := hD
        obtain rfl := Option.some.inj hf
        exact hret rfl hP hD hS dX5_speak_92
      · rw [if_neg c6] at hf
        refine lv_iconst (v := 1) hx hb dX5_speak_85 (by decide) ?_
        refine lv_goto (tgt := 90) hx hb dX5_speak_86 (by decide) ?_
        refine lv_isub hx hb dX5_speak_90 ?_
        refine va_iast (D := D) (f := vweight) hx hb hK hP hD hS 1 0 rfl rfl v1 dX5_speak_91 (fun H locs hP hD hS => ?_)
        have hP : va_P D vwCl (mdW K q (upd vweight (p0).toNatClampNeg ((vweight (p0).toNatClampNeg) - 1)) vkind vrhymes vpurse vhas vwishes vwishMany vsightLeft vsightRight vsightHow vsights vpad vpadMany vact vwho vwhich vwhom vacts o2 (vopenMany + 1) vended (vspoken + 1) vheaviest vheaviestWeight vhad vbadAct vbadWhy vbrings vbringsThen vkept visKept vkeptAt visWriting) H := hP
        have hD : va_D A (mdW K q (upd vweight (p0).toNatClampNeg ((vweight (p0).toNatClampNeg) - 1)) vkind vrhymes vpurse vhas vwishes vwishMany vsightLeft vsightRight vsightHow vsights vpad vpadMany vact vwho vwhich vwhom vacts o2 (vopenMany + 1) vended (vspoken + 1) vheaviest vheaviestWeight vhad vbadAct vbadWhy vbrings vbringsThen vkept visKept vkeptAt visWriting) := hD
        obtain rfl := Option.some.inj hf
        exact hret rfl hP hD hS dX5_speak_92
    · rw [if_neg c5] at hf
      refine lv_aload_n hx hb dX5_speak_54 rfl (lv_at hl 0 rfl) ?_
      refine lv_iload_n hx hb dX5_speak_55 rfl (lv_at hl 1 rfl) ?_
      refine va_put (D := D) (ci := 5) (v := .int p0) (ty := .int) (C := RX5) (T := TX5) (N := 33) hx hb hts inX5_speak_X5 tyX5 tyX5_ok nmX5 hown hK hP hD hS 0 rfl rfl 22 (by decide) (hts (.fieldLink RX5 151 "WordScalesModel" "heaviest" "I") (List.mem_of_getElem? (i := 5) rfl)) (fun _ h9 => h9) rfl (tyX5_ok 22 (by decide)) rfl rfl (Nat.le_of_ble_eq_true rfl) dX5_speak_56 (fun H locs hP hD hS => ?_)
      have hP : va_P D vwCl (mdW K q vweight vkind vrhymes vpurse vhas vwishes vwishMany vsightLeft vsightRight vsightHow vsights vpad vpadMany vact vwho vwhich vwhom vacts o2 (vopenMany + 1) vended (vspoken + 1) p0 vheaviestWeight vhad vbadAct vbadWhy vbrings vbringsThen vkept visKept vkeptAt visWriting) H := hP
      have hD : va_D A (mdW K q vweight vkind vrhymes vpurse vhas vwishes vwishMany vsightLeft vsightRight vsightHow vsights vpad vpadMany vact vwho vwhich vwhom vacts o2 (vopenMany + 1) vended (vspoken + 1) p0 vheaviestWeight vhad vbadAct vbadWhy vbrings vbringsThen vkept visKept vkeptAt visWriting) := hD
      refine lv_aload_n hx hb dX5_speak_59 rfl (lv_at hl 0 rfl) ?_
      refine lv_aload_n hx hb dX5_speak_60 rfl (lv_at hl 0 rfl) ?_
      refine va_get (D := D) (ci := 5) (v := .ref (q 1)) (C := RX5) (T := TX5) (N := 33) hx hb hts inX5_speak_X5 hown hK hP 0 rfl rfl 0 (by decide) (hts (.fieldLink RX5 7 "WordScalesModel" "weight" "[I") (List.mem_of_getElem? (i := 6) rfl)) (fun _ h9 => h9) rfl dX5_speak_61 ?_
      refine lv_iload_n hx hb dX5_speak_64 rfl (lv_at hl 1 rfl) ?_
      refine va_iald (D := D) (f := vweight) hx hb hK hP 1 0 rfl rfl v1 dX5_speak_65 ?_
      refine va_put (D := D) (ci := 5) (v := .int (vweight (p0).toNatClampNeg)) (ty := .int) (C := RX5) (T := TX5) (N := 33) hx hb hts inX5_speak_X5 tyX5 tyX5_ok nmX5 hown hK hP hD hS 0 rfl rfl 23 (by decide) (hts (.fieldLink RX5 154 "WordScalesModel" "heaviestWeight" "I") (List.mem_of_getElem? (i := 7) rfl)) (fun _ h9 => h9) rfl (tyX5_ok 23 (by decide)) rfl rfl (Nat.le_of_ble_eq_true rfl) dX5_speak_66 (fun H locs hP hD hS => ?_)
      have hP : va_P D vwCl (mdW K q vweight vkind vrhymes vpurse vhas vwishes vwishMany vsightLeft vsightRight vsightHow vsights vpad vpadMany vact vwho vwhich vwhom vacts o2 (vopenMany + 1) vended (vspoken + 1) p0 (vweight (p0).toNatClampNeg) vhad vbadAct vbadWhy vbrings vbringsThen vkept visKept vkeptAt visWriting) H := hP
      have hD : va_D A (mdW K q vweight vkind vrhymes vpurse vhas vwishes vwishMany vsightLeft vsightRight vsightHow vsights vpad vpadMany vact vwho vwhich vwhom vacts o2 (vopenMany + 1) vended (vspoken + 1) p0 (vweight (p0).toNatClampNeg) vhad vbadAct vbadWhy vbrings vbringsThen vkept visKept vkeptAt visWriting) := hD
      refine lv_aload_n hx hb dX5_speak_69 rfl (lv_at hl 0 rfl) ?_
      refine va_get (D := D) (ci := 5) (v := .ref (q 1)) (C := RX5) (T := TX5) (N := 33) hx hb hts inX5_speak_X5 hown hK hP 0 rfl rfl 0 (by decide) (hts (.fieldLink RX5 7 "WordScalesModel" "weight" "[I") (List.mem_of_getElem? (i := 6) rfl)) (fun _ h9 => h9) rfl dX5_speak_70 ?_
      refine lv_iload_n hx hb dX5_speak_73 rfl (lv_at hl 1 rfl) ?_
      refine lv_dup2_11 hx hb dX5_speak_74 rfl rfl ?_
      refine va_iald (D := D) (f := vweight) hx hb hK hP 1 0 rfl rfl v1 dX5_speak_75 ?_
      refine lv_aload_n hx hb dX5_speak_76 rfl (lv_at hl 0 rfl) ?_
      refine va_get (D := D) (ci := 5) (v := .ref (q 1)) (C := RX5) (T := TX5) (N := 33) hx hb hts inX5_speak_X5 hown hK hP 0 rfl rfl 0 (by decide) (hts (.fieldLink RX5 7 "WordScalesModel" "weight" "[I") (List.mem_of_getElem? (i := 6) rfl)) (fun _ h9 => h9) rfl dX5_speak_77 ?_
      refine lv_iload_n hx hb dX5_speak_80 rfl (lv_at hl 1 rfl) ?_
      refine va_iald (D := D) (f := vweight) hx hb hK hP 1 0 rfl rfl v1 dX5_speak_81 ?_
      refine lv_if_le (tgt := 89) hx hb dX5_speak_82 (by decide) (fun c7 => ?_) (fun c7 => ?_)
      · rw [if_pos c7] at hf
        refine lv_iconst (v := 0) hx hb dX5_speak_89 (by decide) ?_
        refine lv_isub hx hb dX5_speak_90 ?_
        refine va_iast (D := D) (f := vweight) hx hb hK hP hD hS 1 0 rfl rfl v1 dX5_speak_91 (fun H locs hP hD hS => ?_)
        have hP : va_P D vwCl (mdW K q (upd vweight (p0).toNatClampNeg ((vweight (p0).toNatClampNeg) - 0)) vkind vrhymes vpurse vhas vwishes vwishMany vsightLeft vsightRight vsightHow vsights vpad vpadMany vact vwho vwhich vwhom vacts o2 (vopenMany + 1) vended (vspoken + 1) p0 (vweight (p0).toNatClampNeg) vhad vbadAct vbadWhy vbrings vbringsThen vkept visKept vkeptAt visWriting) H := hP
        have hD : va_D A (mdW K q (upd vweight (p0).toNatClampNeg ((vweight (p0).toNatClampNeg) - 0)) vkind vrhymes vpurse vhas vwishes vwishMany vsightLeft vsightRight vsightHow vsights vpad vpadMany vact vwho vwhich vwhom vacts o2 (vopenMany + 1) vended (vspoken + 1) p0 (vweight (p0).toNatClampNeg) vhad vbadAct vbadWhy vbrings vbringsThen vkept visKept vkeptAt visWriting) := hD
        obtain rfl := Option.some.inj hf
        exact hret rfl hP hD hS dX5_speak_92
      · rw [if_neg c7] at hf
        refine lv_iconst (v := 1) hx hb dX5_speak_85 (by decide) ?_
        refine lv_goto (tgt := 90) hx hb dX5_speak_86 (by decide) ?_
        refine lv_isub hx hb dX5_speak_90 ?_
        refine va_iast (D := D) (f := vweight) hx hb hK hP hD hS 1 0 rfl rfl v1 dX5_speak_91 (fun H locs hP hD hS => ?_)
        have hP : va_P D vwCl (mdW K q (upd vweight (p0).toNatClampNeg ((vweight (p0).toNatClampNeg) - 1)) vkind vrhymes vpurse vhas vwishes vwishMany vsightLeft vsightRight vsightHow vsights vpad vpadMany vact vwho vwhich vwhom vacts o2 (vopenMany + 1) vended (vspoken + 1) p0 (vweight (p0).toNatClampNeg) vhad vbadAct vbadWhy vbrings vbringsThen vkept visKept vkeptAt visWriting) H := hP
        have hD : va_D A (mdW K q (upd vweight (p0).toNatClampNeg ((vweight (p0).toNatClampNeg) - 1)) vkind vrhymes vpurse vhas vwishes vwishMany vsightLeft vsightRight vsightHow vsights vpad vpadMany vact vwho vwhich vwhom vacts o2 (vopenMany + 1) vended (vspoken + 1) p0 (vweight (p0).toNatClampNeg) vhad vbadAct vbadWhy vbrings vbringsThen vkept visKept vkeptAt visWriting) := hD
        obtain rfl := Option.some.inj hf
        exact hret rfl hP hD hS dX5_speak_92
def f_X5_beginCount : Int32 × Int32 × Int32 × Int32 × Int32 × Int32 := (0, 0, 0, 0, (-6), 0)
theorem inX5_beginCount_X5 : ∀ w ∈ wsX50, w ∈ wsX5_beginCount := fun w h => List.mem_cons_of_mem _ (List.mem_append_right _ h)
theorem yd_X5_beginCount : yX5_beginCount.cls ≠ "java/lang/invoke/MethodHandle" ∧ yX5_beginCount.cls ≠ "java/lang/invoke/VarHandle" ∧ (parseMethodDescriptor yX5_beginCount.desc).map (fun d => d.parameters.length) = some 0 := by decide +kernel
abbrev rmX5_beginCount : Room := { frames := 0, cells := 0, slots := 0, locals := 0 }
set_option maxHeartbeats 4000000 in
set_option maxRecDepth 100000 in
theorem k_X5_beginCount (l : Launch) (D : va_G) (K : Nat → ClassId) (q : Nat → Nat) (vweight : Nat → Int32) (vkind : Nat → Int32) (vrhymes : Nat → Int32) (vpurse : Nat → Int32) (vhas : Nat → Int32) (vwishes : Nat → Int32) (vwishMany : Int32) (vsightLeft : Nat → Int32) (vsightRight : Nat → Int32) (vsightHow : Nat → Int32) (vsights : Int32) (vpad : Nat → Int32) (vpadMany : Int32) (vact : Nat → Int32) (vwho : Nat → Int32) (vwhich : Nat → Int32) (vwhom : Nat → Int32) (vacts : Int32) (vplace : Int32) (vopenMany : Int32) (vended : Int32) (vspoken : Int32) (vheaviest : Int32) (vheaviestWeight : Int32) (vhad : Nat → Int32) (vbadAct : Int32) (vbadWhy : Int32) (vbrings : Nat → Int64) (vbringsThen : Nat → Int64) (vkept : Nat → Int32) (visKept : Nat → Int32) (vkeptAt : Int32) (visWriting : Int32) (out : Int32 × Int32 × Int32 × Int32 × Int32 × Int32) (hf : f_X5_beginCount = out) : kV l D K yX5_beginCount wsX5_beginCount rmX5_beginCount [.ref (q 0)] (mdW K q vweight vkind vrhymes vpurse vhas vwishes vwishMany vsightLeft vsightRight vsightHow vsights vpad vpadMany vact vwho vwhich vwhom vacts vplace vopenMany vended vspoken vheaviest vheaviestWeight vhad vbadAct vbadWhy vbrings vbringsThen vkept visKept vkeptAt visWriting) (mdW K q vweight vkind vrhymes vpurse vhas vwishes vwishMany vsightLeft vsightRight vsightHow vsights vpad vpadMany vact vwho vwhich vwhom vacts out.1 out.2.1 out.2.2.1 out.2.2.2.1 out.2.2.2.2.1 out.2.2.2.2.2 vhad vbadAct vbadWhy vbrings vbringsThen vkept visKept vkeptAt visWriting) := by
  refine kV.of (cc := cX5_beginCount) (maxL := 1) (by decide) rfl (Nat.le_of_ble_eq_true rfl) ?_
  intro p e s m args below meth c A H0 Q ls hx hb hml hown hts hK hN hA hP hD hS hl hret
  have hown : s.vm.findClass RX5 = some m.cls := hown
  have hl : lv_has ls 1 [(0, .ref (q 0))] := hl
  generalize hH : H0 = H at hP ⊢
  have hS : va_S A H0 H [] := by rw [← hH]; exact hS
  clear hH
  unfold f_X5_beginCount at hf
  refine lv_aload_n hx hb dX5_beginCount_0 rfl (lv_at hl 0 rfl) ?_
  refine lv_iconst (v := 0) hx hb dX5_beginCount_1 (by decide) ?_
  refine va_put (D := D) (ci := 5) (v := .int 0) (ty := .int) (C := RX5) (T := TX5) (N := 33) hx hb hts inX5_beginCount_X5 tyX5 tyX5_ok nmX5 hown hK hP hD hS 0 rfl rfl 20 (by decide) (hts (.fieldLink RX5 157 "WordScalesModel" "ended" "I") (List.mem_of_getElem? (i := 1) rfl)) (fun _ h9 => h9) rfl (tyX5_ok 20 (by decide)) rfl rfl (Nat.le_of_ble_eq_true rfl) dX5_beginCount_2 (fun H locs hP hD hS => ?_)
  have hP : va_P D vwCl (mdW K q vweight vkind vrhymes vpurse vhas vwishes vwishMany vsightLeft vsightRight vsightHow vsights vpad vpadMany vact vwho vwhich vwhom vacts vplace vopenMany 0 vspoken vheaviest vheaviestWeight vhad vbadAct vbadWhy vbrings vbringsThen vkept visKept vkeptAt visWriting) H := hP
  have hD : va_D A (mdW K q vweight vkind vrhymes vpurse vhas vwishes vwishMany vsightLeft vsightRight vsightHow vsights vpad vpadMany vact vwho vwhich vwhom vacts vplace vopenMany 0 vspoken vheaviest vheaviestWeight vhad vbadAct vbadWhy vbrings vbringsThen vkept visKept vkeptAt visWriting) := hD
  refine lv_aload_n hx hb dX5_beginCount_5 rfl (lv_at hl 0 rfl) ?_
  refine lv_iconst (v := 0) hx hb dX5_beginCount_6 (by decide) ?_
  refine va_put (D := D) (ci := 5) (v := .int 0) (ty := .int) (C := RX5) (T := TX5) (N := 33) hx hb hts inX5_beginCount_X5 tyX5 tyX5_ok nmX5 hown hK hP hD hS 0 rfl rfl 21 (by decide) (hts (.fieldLink RX5 142 "WordScalesModel" "spoken" "I") (List.mem_of_getElem? (i := 2) rfl)) (fun _ h9 => h9) rfl (tyX5_ok 21 (by decide)) rfl rfl (Nat.le_of_ble_eq_true rfl) dX5_beginCount_7 (fun H locs hP hD hS => ?_)
  have hP : va_P D vwCl (mdW K q vweight vkind vrhymes vpurse vhas vwishes vwishMany vsightLeft vsightRight vsightHow vsights vpad vpadMany vact vwho vwhich vwhom vacts vplace vopenMany 0 0 vheaviest vheaviestWeight vhad vbadAct vbadWhy vbrings vbringsThen vkept visKept vkeptAt visWriting) H := hP
  have hD : va_D A (mdW K q vweight vkind vrhymes vpurse vhas vwishes vwishMany vsightLeft vsightRight vsightHow vsights vpad vpadMany vact vwho vwhich vwhom vacts vplace vopenMany 0 0 vheaviest vheaviestWeight vhad vbadAct vbadWhy vbrings vbringsThen vkept visKept vkeptAt visWriting) := hD
  refine lv_aload_n hx hb dX5_beginCount_10 rfl (lv_at hl 0 rfl) ?_
  refine lv_bipush (v := (-6)) hx hb dX5_beginCount_11 (by decide) ?_
  refine va_put (D := D) (ci := 5) (v := .int (-6)) (ty := .int) (C := RX5) (T := TX5) (N := 33) hx hb hts inX5_beginCount_X5 tyX5 tyX5_ok nmX5 hown hK hP hD hS 0 rfl rfl 22 (by decide) (hts (.fieldLink RX5 151 "WordScalesModel" "heaviest" "I") (List.mem_of_getElem? (i := 3) rfl)) (fun _ h9 => h9) rfl (tyX5_ok 22 (by decide)) rfl rfl (Nat.le_of_ble_eq_true rfl) dX5_beginCount_13 (fun H locs hP hD hS => ?_)
  have hP : va_P D vwCl (mdW K q vweight vkind vrhymes vpurse vhas vwishes vwishMany vsightLeft vsightRight vsightHow vsights vpad vpadMany vact vwho vwhich vwhom vacts vplace vopenMany 0 0 (-6) vheaviestWeight vhad vbadAct vbadWhy vbrings vbringsThen vkept visKept vkeptAt visWriting) H := hP
  have hD : va_D A (mdW K q vweight vkind vrhymes vpurse vhas vwishes vwishMany vsightLeft vsightRight vsightHow vsights vpad vpadMany vact vwho vwhich vwhom vacts vplace vopenMany 0 0 (-6) vheaviestWeight vhad vbadAct vbadWhy vbrings vbringsThen vkept visKept vkeptAt visWriting) := hD
  refine lv_aload_n hx hb dX5_beginCount_16 rfl (lv_at hl 0 rfl) ?_
  refine lv_iconst (v := 0) hx hb dX5_beginCount_17 (by decide) ?_
  refine va_put (D := D) (ci := 5) (v := .int 0) (ty := .int) (C := RX5) (T := TX5) (N := 33) hx hb hts inX5_beginCount_X5 tyX5 tyX5_ok nmX5 hown hK hP hD hS 0 rfl rfl 23 (by decide) (hts (.fieldLink RX5 154 "WordScalesModel" "heaviestWeight" "I") (List.mem_of_getElem? (i := 4) rfl)) (fun _ h9 => h9) rfl (tyX5_ok 23 (by decide)) rfl rfl (Nat.le_of_ble_eq_true rfl) dX5_beginCount_18 (fun H locs hP hD hS => ?_)
  have hP : va_P D vwCl (mdW K q vweight vkind vrhymes vpurse vhas vwishes vwishMany vsightLeft vsightRight vsightHow vsights vpad vpadMany vact vwho vwhich vwhom vacts vplace vopenMany 0 0 (-6) 0 vhad vbadAct vbadWhy vbrings vbringsThen vkept visKept vkeptAt visWriting) H := hP
  have hD : va_D A (mdW K q vweight vkind vrhymes vpurse vhas vwishes vwishMany vsightLeft vsightRight vsightHow vsights vpad vpadMany vact vwho vwhich vwhom vacts vplace vopenMany 0 0 (-6) 0 vhad vbadAct vbadWhy vbrings vbringsThen vkept visKept vkeptAt visWriting) := hD
  refine lv_aload_n hx hb dX5_beginCount_21 rfl (lv_at hl 0 rfl) ?_
  refine lv_iconst (v := 0) hx hb dX5_beginCount_22 (by decide) ?_
  refine va_put (D := D) (ci := 5) (v := .int 0) (ty := .int) (C := RX5) (T := TX5) (N := 33) hx hb hts inX5_beginCount_X5 tyX5 tyX5_ok nmX5 hown hK hP hD hS 0 rfl rfl 18 (by decide) (hts (.fieldLink RX5 135 "WordScalesModel" "place" "I") (List.mem_of_getElem? (i := 5) rfl)) (fun _ h9 => h9) rfl (tyX5_ok 18 (by decide)) rfl rfl (Nat.le_of_ble_eq_true rfl) dX5_beginCount_23 (fun H locs hP hD hS => ?_)
  have hP : va_P D vwCl (mdW K q vweight vkind vrhymes vpurse vhas vwishes vwishMany vsightLeft vsightRight vsightHow vsights vpad vpadMany vact vwho vwhich vwhom vacts 0 vopenMany 0 0 (-6) 0 vhad vbadAct vbadWhy vbrings vbringsThen vkept visKept vkeptAt visWriting) H := hP
  have hD : va_D A (mdW K q vweight vkind vrhymes vpurse vhas vwishes vwishMany vsightLeft vsightRight vsightHow vsights vpad vpadMany vact vwho vwhich vwhom vacts 0 vopenMany 0 0 (-6) 0 vhad vbadAct vbadWhy vbrings vbringsThen vkept visKept vkeptAt visWriting) := hD
  refine lv_aload_n hx hb dX5_beginCount_26 rfl (lv_at hl 0 rfl) ?_
  refine lv_iconst (v := 0) hx hb dX5_beginCount_27 (by decide) ?_
  refine va_put (D := D) (ci := 5) (v := .int 0) (ty := .int) (C := RX5) (T := TX5) (N := 33) hx hb hts inX5_beginCount_X5 tyX5 tyX5_ok nmX5 hown hK hP hD hS 0 rfl rfl 19 (by decide) (hts (.fieldLink RX5 145 "WordScalesModel" "openMany" "I") (List.mem_of_getElem? (i := 6) rfl)) (fun _ h9 => h9) rfl (tyX5_ok 19 (by decide)) rfl rfl (Nat.le_of_ble_eq_true rfl) dX5_beginCount_28 (fun H locs hP hD hS => ?_)
  have hP : va_P D vwCl (mdW K q vweight vkind vrhymes vpurse vhas vwishes vwishMany vsightLeft vsightRight vsightHow vsights vpad vpadMany vact vwho vwhich vwhom vacts 0 0 0 0 (-6) 0 vhad vbadAct vbadWhy vbrings vbringsThen vkept visKept vkeptAt visWriting) H := hP
  have hD : va_D A (mdW K q vweight vkind vrhymes vpurse vhas vwishes vwishMany vsightLeft vsightRight vsightHow vsights vpad vpadMany vact vwho vwhich vwhom vacts 0 0 0 0 (-6) 0 vhad vbadAct vbadWhy vbrings vbringsThen vkept visKept vkeptAt visWriting) := hD
  subst hf
  exact hret rfl hP hD hS dX5_beginCount_31
def f_X5_happen (vweight : Nat → Int32) (vkind : Nat → Int32) (vpurse : Nat → Int32) (vhas : Nat → Int32) (vplace : Int32) (vopenMany : Int32) (vended : Int32) (vspoken : Int32) (vheaviest : Int32) (vheaviestWeight : Int32) (p0 : Int32) (p1 : Int32) (p2 : Int32) (p3 : Int32) : Option ((Nat → Int32) × (Nat → Int32) × (Nat → Int32) × Int32 × Int32 × Int32 × Int32 × Int32 × Int32) := if p0 = 0 then (chk p1 4 (chk p2 12 (some (vweight, (upd vpurse (p1).toNatClampNeg ((vpurse (p1).toNatClampNeg) - (vweight (p2).toNatClampNeg))), (upd vhas (p1).toNatClampNeg ((vhas (p1).toNatClampNeg) ||| (1 <<< (p2 &&& 31)))), vplace, vopenMany, vended, vspoken, vheaviest, vheaviestWeight)))) else (if p0 = 1 then (chk p1 4 (chk p2 12 (some (vweight, (upd vpurse (p1).toNatClampNeg ((vpurse (p1).toNatClampNeg) + ((vweight (p2).toNatClampNeg) / 2))), (upd vhas (p1).toNatClampNeg ((vhas (p1).toNatClampNeg) &&& ((1 <<< (p2 &&& 31)) ^^^ (-1)))), vplace, vopenMany, vended, vspoken, vheaviest, vheaviestWeight)))) else (if p0 = 2 then (ob (f_X5_speak vweight vkind vplace vopenMany vspoken vheaviest vheaviestWeight p2) (fun o9 => some (o9.1, vpurse, vhas, o9.2.1, o9.2.2.1, vended, o9.2.2.2.1, o9.2.2.2.2.1, o9.2.2.2.2.2))) else (if p0 = 3 then (chk p3 4 (chk p1 4 (some (vweight, vpurse, (upd (upd vhas (p3).toNatClampNeg ((vhas (p3).toNatClampNeg) ||| (1 <<< (p2 &&& 31)))) (p1).toNatClampNeg (((upd vhas (p3).toNatClampNeg ((vhas (p3).toNatClampNeg) ||| (1 <<< (p2 &&& 31)))) (p1).toNatClampNeg) &&& ((1 <<< (p2 &&& 31)) ^^^ (-1)))), vplace, vopenMany, vended, vspoken, vheaviest, vheaviestWeight)))) else (some (vweight, vpurse, vhas, 0, 0, (vended + 1), vspoken, vheaviest, vheaviestWeight)))))
theorem inX5_happen_X5 : ∀ w ∈ wsX50, w ∈ wsX5_happen := fun w h => List.mem_cons_of_mem _ (List.mem_append_right _ h)
theorem yd_X5_happen : yX5_happen.cls ≠ "java/lang/invoke/MethodHandle" ∧ yX5_happen.cls ≠ "java/lang/invoke/VarHandle" ∧ (parseMethodDescriptor yX5_happen.desc).map (fun d => d.parameters.length) = some 4 := by decide +kernel
abbrev rmX5_happen : Room := { frames := 2, cells := 0, slots := 0, locals := 42 }
set_option maxHeartbeats 4000000 in
set_option maxRecDepth 100000 in
theorem k_X5_happen (l : Launch) (D : va_G) (K : Nat → ClassId) (q : Nat → Nat) (vweight : Nat → Int32) (vkind : Nat → Int32) (vrhymes : Nat → Int32) (vpurse : Nat → Int32) (vhas : Nat → Int32) (vwishes : Nat → Int32) (vwishMany : Int32) (vsightLeft : Nat → Int32) (vsightRight : Nat → Int32) (vsightHow : Nat → Int32) (vsights : Int32) (vpad : Nat → Int32) (vpadMany : Int32) (vact : Nat → Int32) (vwho : Nat → Int32) (vwhich : Nat → Int32) (vwhom : Nat → Int32) (vacts : Int32) (vplace : Int32) (vopenMany : Int32) (vended : Int32) (vspoken : Int32) (vheaviest : Int32) (vheaviestWeight : Int32) (vhad : Nat → Int32) (vbadAct : Int32) (vbadWhy : Int32) (vbrings : Nat → Int64) (vbringsThen : Nat → Int64) (vkept : Nat → Int32) (visKept : Nat → Int32) (vkeptAt : Int32) (visWriting : Int32) (p0 : Int32) (p1 : Int32) (p2 : Int32) (p3 : Int32) (out : (Nat → Int32) × (Nat → Int32) × (Nat → Int32) × Int32 × Int32 × Int32 × Int32 × Int32 × Int32) (hf : f_X5_happen vweight vkind vpurse vhas vplace vopenMany vended vspoken vheaviest vheaviestWeight p0 p1 p2 p3 = some out) : kV l D K yX5_happen wsX5_happen rmX5_happen [.ref (q 0), .int p0, .int p1, .int p2, .int p3] (mdW K q vweight vkind vrhymes vpurse vhas vwishes vwishMany vsightLeft vsightRight vsightHow vsights vpad vpadMany vact vwho vwhich vwhom vacts vplace vopenMany vended vspoken vheaviest vheaviestWeight vhad vbadAct vbadWhy vbrings vbringsThen vkept visKept vkeptAt visWriting) (mdW K q out.1 vkind vrhymes out.2.1 out.2.2.1 vwishes vwishMany vsightLeft vsightRight vsightHow vsights vpad vpadMany vact vwho vwhich vwhom vacts out.2.2.2.1 out.2.2.2.2.1 out.2.2.2.2.2.1 out.2.2.2.2.2.2.1 out.2.2.2.2.2.2.2.1 out.2.2.2.2.2.2.2.2 vhad vbadAct vbadWhy vbrings vbringsThen vkept visKept vkeptAt visWriting) := by
  refine kV.of (cc := cX5_happen) (maxL := 5) (by decide) rfl (Nat.le_of_ble_eq_true rfl) ?_
  intro p e s m args below meth c A H0 Q ls hx hb hml hown hts hK hN hA hP hD hS hl hret
  have hown : s.vm.findClass RX5 = some m.cls := hown
  have hl : lv_has ls 5 [(0, .ref (q 0)), (1, .int p0), (2, .int p1), (3, .int p2), (4, .int p3)] := hl
  generalize hH : H0 = H at hP ⊢
  have hS : va_S A H0 H [] := by rw [← hH]; exact hS
  clear hH
  unfold f_X5_happen at hf
  refine lv_iload_n hx hb dX5_happen_0 rfl (lv_at hl 1 rfl) ?_
  refine lv_tab4 (t0 := 32) (t1 := 62) (t2 := 96) (t3 := 104) (td := 134) hx hb dX5_happen_1 (by decide) (by decide) (by decide) (by decide) (by decide) (fun c1 => ?_) (fun c1 c2 => ?_) (fun c1 c2 c3 => ?_) (fun c1 c2 c3 c4 => ?_) (fun c1 c2 c3 c4 => ?_)
  · rw [if_pos c1] at hf
    refine lv_aload_n hx hb dX5_happen_32 rfl (lv_at hl 0 rfl) ?_
    refine va_get (D := D) (ci := 5) (v := .ref (q 4)) (C := RX5) (T := TX5) (N := 33) hx hb hts inX5_happen_X5 hown hK hP 0 rfl rfl 3 (by decide) (hts (.fieldLink RX5 19 "WordScalesModel" "purse" "[I") (List.mem_of_getElem? (i := 1) rfl)) (fun _ h9 => h9) rfl dX5_happen_33 ?_
    refine lv_iload_n hx hb dX5_happen_36 rfl (lv_at hl 2 rfl) ?_
    refine lv_dup2_11 hx hb dX5_happen_37 rfl rfl ?_
    obtain ⟨v5, hf⟩ := chk_el hf
    refine va_iald (D := D) (f := vpurse) hx hb hK hP 4 0 rfl rfl v5 dX5_happen_38 ?_
    refine lv_aload_n hx hb dX5_happen_39 rfl (lv_at hl 0 rfl) ?_
    refine va_get (D := D) (ci := 5) (v := .ref (q 1)) (C := RX5) (T := TX5) (N := 33) hx hb hts inX5_happen_X5 hown hK hP 0 rfl rfl 0 (by decide) (hts (.fieldLink RX5 7 "WordScalesModel" "weight" "[I") (List.mem_of_getElem? (i := 2) rfl)) (fun _ h9 => h9) rfl dX5_happen_40 ?_
    refine lv_iload_n hx hb dX5_happen_43 rfl (lv_at hl 3 rfl) ?_
    obtain ⟨v6, hf⟩ := chk_el hf
    refine va_iald (D := D) (f := vweight) hx hb hK hP 1 0 rfl rfl v6 dX5_happen_44 ?_
    refine lv_isub hx hb dX5_happen_45 ?_
    refine va_iast (D := D) (f := vpurse) hx hb hK hP hD hS 4 0 rfl rfl v5 dX5_happen_46 (fun H locs hP hD hS => ?_)
    have hP : va_P D vwCl (mdW K q vweight vkind vrhymes (upd vpurse (p1).toNatClampNeg ((vpurse (p1).toNatClampNeg) - (vweight (p2).toNatClampNeg))) vhas vwishes vwishMany vsightLeft vsightRight vsightHow vsights vpad vpadMany vact vwho vwhich vwhom vacts vplace vopenMany vended vspoken vheaviest vheaviestWeight vhad vbadAct vbadWhy vbrings vbringsThen vkept visKept vkeptAt visWriting) H := hP
    have hD : va_D A (mdW K q vweight vkind vrhymes (upd vpurse (p1).toNatClampNeg ((vpurse (p1).toNatClampNeg) - (vweight (p2).toNatClampNeg))) vhas vwishes vwishMany vsightLeft vsightRight vsightHow vsights vpad vpadMany vact vwho vwhich vwhom vacts vplace vopenMany vended vspoken vheaviest vheaviestWeight vhad vbadAct vbadWhy vbrings vbringsThen vkept visKept vkeptAt visWriting) := hD
    refine lv_aload_n hx hb dX5_happen_47 rfl (lv_at hl 0 rfl) ?_
    refine va_get (D := D) (ci := 5) (v := .ref (q 5)) (C := RX5) (T := TX5) (N := 33) hx hb hts inX5_happen_X5 hown hK hP 0 rfl rfl 4 (by decide) (hts (.fieldLink RX5 22 "WordScalesModel" "has" "[I") (List.mem_of_getElem? (i := 3) rfl)) (fun _ h9 => h9) rfl dX5_happen_48 ?_
    refine lv_iload_n hx hb dX5_happen_51 rfl (lv_at hl 2 rfl) ?_
    refine lv_dup2_11 hx hb dX5_happen_52 rfl rfl ?_
    refine va_iald (D := D) (f := vhas) hx hb hK hP 5 0 rfl rfl v5 dX5_happen_53 ?_
    refine lv_iconst (v := 1) hx hb dX5_happen_54 (by decide) ?_
    refine lv_iload_n hx hb dX5_happen_55 rfl (lv_at hl 3 rfl) ?_
    refine lv_ishl hx hb dX5_happen_56 ?_
    refine lv_ior hx hb dX5_happen_57 ?_
    refine va_iast (D := D) (f := vhas) hx hb hK hP hD hS 5 0 rfl rfl v5 dX5_happen_58 (fun H locs hP hD hS => ?_)
    have hP : va_P D vwCl (mdW K q vweight vkind vrhymes (upd vpurse (p1).toNatClampNeg ((vpurse (p1).toNatClampNeg) - (vweight (p2).toNatClampNeg))) (upd vhas (p1).toNatClampNeg ((vhas (p1).toNatClampNeg) ||| (1 <<< (p2 &&& 31)))) vwishes vwishMany vsightLeft vsightRight vsightHow vsights vpad vpadMany vact vwho vwhich vwhom vacts vplace vopenMany vended vspoken vheaviest vheaviestWeight vhad vbadAct vbadWhy vbrings vbringsThen vkept visKept vkeptAt visWriting) H := hP
    have hD : va_D A (mdW K q vweight vkind vrhymes (upd vpurse (p1).toNatClampNeg ((vpurse (p1).toNatClampNeg) - (vweight (p2).toNatClampNeg))) (upd vhas (p1).toNatClampNeg ((vhas (p1).toNatClampNeg) ||| (1 <<< (p2 &&& 31)))) vwishes vwishMany vsightLeft vsightRight vsightHow vsights vpad vpadMany vact vwho vwhich vwhom vacts vplace vopenMany vended vspoken vheaviest vheaviestWeight vhad vbadAct vbadWhy vbrings vbringsThen vkept visKept vkeptAt visWriting) := hD
    refine lv_goto (tgt := 154) hx hb dX5_happen_59 (by decide) ?_
    obtain rfl := Option.some.inj hf
    exact hret rfl hP hD hS dX5_happen_154
  · rw [if_neg c1, if_pos c2] at hf
    refine lv_aload_n hx hb dX5_happen_62 rfl (lv_at hl 0 rfl) ?_
    refine va_get (D := D) (ci := 5) (v := .ref (q 4)) (C := RX5) (T := TX5) (N := 33) hx hb hts inX5_happen_X5 hown hK hP 0 rfl rfl 3 (by decide) (hts (.fieldLink RX5 19 "WordScalesModel" "purse" "[I") (List.mem_of_getElem? (i := 1) rfl)) (fun _ h9 => h9) rfl dX5_happen_63 ?_
    refine lv_iload_n hx hb dX5_happen_66 rfl (lv_at hl 2 rfl) ?_
    refine lv_dup2_11 hx hb dX5_happen_67 rfl rfl ?_
    obtain ⟨v7, hf⟩ := chk_el hf
    refine va_iald (D := D) (f := vpurse) hx hb hK hP 4 0 rfl rfl v7 dX5_happen_68 ?_
    refine lv_aload_n hx hb dX5_happen_69 rfl (lv_at hl 0 rfl) ?_
    refine va_get (D := D) (ci := 5) (v := .ref (q 1)) (C := RX5) (T := TX5) (N := 33) hx hb hts inX5_happen_X5 hown hK hP 0 rfl rfl 0 (by decide) (hts (.fieldLink RX5 7 "WordScalesModel" "weight" "[I") (List.mem_of_getElem? (i := 2) rfl)) (fun _ h9 => h9) rfl dX5_happen_70 ?_
    refine lv_iload_n hx hb dX5_happen_73 rfl (lv_at hl 3 rfl) ?_
    obtain ⟨v8, hf⟩ := chk_el hf
    refine va_iald (D := D) (f := vweight) hx hb hK hP 1 0 rfl rfl v8 dX5_happen_74 ?_
    refine lv_iconst (v := 2) hx hb dX5_happen_75 (by decide) ?_
    refine lv_idiv hx hb dX5_happen_76 (by decide) ?_
    refine lv_iadd hx hb dX5_happen_77 ?_
    refine va_iast (D := D) (f := vpurse) hx hb hK hP hD hS 4 0 rfl rfl v7 dX5_happen_78 (fun H locs hP hD hS => ?_)
    have hP : va_P D vwCl (mdW K q vweight vkind vrhymes (upd vpurse (p1).toNatClampNeg ((vpurse (p1).toNatClampNeg) + ((vweight (p2).toNatClampNeg) / 2))) vhas vwishes vwishMany vsightLeft vsightRight vsightHow vsights vpad vpadMany vact vwho vwhich vwhom vacts vplace vopenMany vended vspoken vheaviest vheaviestWeight vhad vbadAct vbadWhy vbrings vbringsThen vkept visKept vkeptAt visWriting) H := hP
    have hD : va_D A (mdW K q vweight vkind vrhymes (upd vpurse (p1).toNatClampNeg ((vpurse (p1).toNatClampNeg) + ((vweight (p2).toNatClampNeg) / 2))) vhas vwishes vwishMany vsightLeft vsightRight vsightHow vsights vpad vpadMany vact vwho vwhich vwhom vacts vplace vopenMany vended vspoken vheaviest vheaviestWeight vhad vbadAct vbadWhy vbrings vbringsThen vkept visKept vkeptAt visWriting) := hD
    refine lv_aload_n hx hb dX5_happen_79 rfl (lv_at hl 0 rfl) ?_
    refine va_get (D := D) (ci := 5) (v := .ref (q 5)) (C := RX5) (T := TX5) (N := 33) hx hb hts inX5_happen_X5 hown hK hP 0 rfl rfl 4 (by decide) (hts (.fieldLink RX5 22 "WordScalesModel" "has" "[I") (List.mem_of_getElem? (i := 3) rfl)) (fun _ h9 => h9) rfl dX5_happen_80 ?_
    refine lv_iload_n hx hb dX5_happen_83 rfl (lv_at hl 2 rfl) ?_
    refine lv_dup2_11 hx hb dX5_happen_84 rfl rfl ?_
    refine va_iald (D := D) (f := vhas) hx hb hK hP 5 0 rfl rfl v7 dX5_happen_85 ?_
    refine lv_iconst (v := 1) hx hb dX5_happen_86 (by decide) ?_
    refine lv_iload_n hx hb dX5_happen_87 rfl (lv_at hl 3 rfl) ?_
    refine lv_ishl hx hb dX5_happen_88 ?_
    refine lv_iconst (v := (-1)) hx hb dX5_happen_89 (by decide) ?_
    refine lv_ixor hx hb dX5_happen_90 ?_
    refine lv_iand hx hb dX5_happen_91 ?_
    refine va_iast (D := D) (f := vhas) hx hb hK hP hD hS 5 0 rfl rfl v7 dX5_happen_92 (fun H locs hP hD hS => ?_)
    have hP : va_P D vwCl (mdW K q vweight vkind vrhymes (upd vpurse (p1).toNatClampNeg ((vpurse (p1).toNatClampNeg) + ((vweight (p2).toNatClampNeg) / 2))) (upd vhas (p1).toNatClampNeg ((vhas (p1).toNatClampNeg) &&& ((1 <<< (p2 &&& 31)) ^^^ (-1)))) vwishes vwishMany vsightLeft vsightRight vsightHow vsights vpad vpadMany vact vwho vwhich vwhom vacts vplace vopenMany vended vspoken vheaviest vheaviestWeight vhad vbadAct vbadWhy vbrings vbringsThen vkept visKept vkeptAt visWriting) H := hP
    have hD : va_D A (mdW K q vweight vkind vrhymes (upd vpurse (p1).toNatClampNeg ((vpurse (p1).toNatClampNeg) + ((vweight (p2).toNatClampNeg) / 2))) (upd vhas (p1).toNatClampNeg ((vhas (p1).toNatClampNeg) &&& ((1 <<< (p2 &&& 31)) ^^^ (-1)))) vwishes vwishMany vsightLeft vsightRight vsightHow vsights vpad vpadMany vact vwho vwhich vwhom vacts vplace vopenMany vended vspoken vheaviest vheaviestWeight vhad vbadAct vbadWhy vbrings vbringsThen vkept visKept vkeptAt visWriting) := hD
    refine lv_goto (tgt := 154) hx hb dX5_happen_93 (by decide) ?_
    obtain rfl := Option.some.inj hf
    exact hret rfl hP hD hS dX5_happen_154
  · rw [if_neg c1, if_neg c2, if_pos c3] at hf
    refine lv_aload_n hx hb dX5_happen_96 rfl (lv_at hl 0 rfl) ?_
    refine lv_iload_n hx hb dX5_happen_97 rfl (lv_at hl 3 rfl) ?_
    obtain ⟨o9, ho9, hf⟩ := ob_el hf
    refine kcw_v (D := D) (va_runV (As := [.int p2]) (rest := []) ⟨hx, hb, hml, hown, hts⟩ ((k_X5_speak l D K q vweight vkind vrhymes vpurse vhas vwishes vwishMany vsightLeft vsightRight vsightHow vsights vpad vpadMany vact vwho vwhich vwhom vacts vplace vopenMany vended vspoken vheaviest vheaviestWeight vhad vbadAct vbadWhy vbrings vbringsThen vkept visKept vkeptAt visWriting p2 o9 ho9) H.size) (cwV 1 hts gX5_happen_X5_speak rfl rfl rfl ⟨rfl, yd_X5_speak⟩ ⟨Nat.le_of_ble_eq_true rfl, Nat.le_of_ble_eq_true rfl⟩) (kPreV (ci := 5) (q0 := 0) hP rfl rfl hP hD hK hN) rfl rfl hl.1 rfl (lv_room (Nat.le_of_ble_eq_true rfl)) dX5_happen_98 ⟨Nat.le_of_ble_eq_true rfl, Nat.le_of_ble_eq_true rfl⟩) hD hS hA (fun H locs hP hD hS => ?_)
    have hP : va_P D vwCl (mdW K q o9.1 vkind vrhymes vpurse vhas vwishes vwishMany vsightLeft vsightRight vsightHow vsights vpad vpadMany vact vwho vwhich vwhom vacts o9.2.1 o9.2.2.1 vended o9.2.2.2.1 o9.2.2.2.2.1 o9.2.2.2.2.2 vhad vbadAct vbadWhy vbrings vbringsThen vkept visKept vkeptAt visWriting) H := hP
    have hD : va_D A (mdW K q o9.1 vkind vrhymes vpurse vhas vwishes vwishMany vsightLeft vsightRight vsightHow vsights vpad vpadMany vact vwho vwhich vwhom vacts o9.2.1 o9.2.2.1 vended o9.2.2.2.1 o9.2.2.2.2.1 o9.2.2.2.2.2 vhad vbadAct vbadWhy vbrings vbringsThen vkept visKept vkeptAt visWriting) := hD
    refine lv_goto (tgt := 154) hx hb dX5_happen_101 (by decide) ?_
    obtain rfl := Option.some.inj hf
    exact hret rfl hP hD hS dX5_happen_154
  · rw [if_neg c1, if_neg c2, if_neg c3, if_pos c4] at hf
    refine lv_aload_n hx hb dX5_happen_104 rfl (lv_at hl 0 rfl) ?_
    refine va_get (D := D) (ci := 5) (v := .ref (q 5)) (C := RX5) (T := TX5) (N := 33) hx hb hts inX5_happen_X5 hown hK hP 0 rfl rfl 4 (by decide) (hts (.fieldLink RX5 22 "WordScalesModel" "has" "[I") (List.mem_of_getElem? (i := 3) rfl)) (fun _ h9 => h9) rfl dX5_happen_105 ?_
    refine lv_iload hx hb dX5_happen_108 (lv_at hl 4 rfl) ?_
    refine lv_dup2_11 hx hb dX5_happen_110 rfl rfl ?_
    obtain ⟨v10, hf⟩ := chk_el hf
    refine va_iald (D := D) (f := vhas) hx hb hK hP 5 0 rfl rfl v10 dX5_happen_111 ?_
    refine lv_iconst (v := 1) hx hb dX5_happen_112 (by decide) ?_
    refine lv_iload_n hx hb dX5_happen_113 rfl (lv_at hl 3 rfl) ?_
    refine lv_ishl hx hb dX5_happen_114 ?_
    refine lv_ior hx hb dX5_happen_115 ?_
    refine va_iast (D := D) (f := vhas) hx hb hK hP hD hS 5 0 rfl rfl v10 dX5_happen_116 (fun H locs hP hD hS => ?_)
    have hP : va_P D vwCl (mdW K q vweight vkind vrhymes vpurse (upd vhas (p3).toNatClampNeg ((vhas (p3).toNatClampNeg) ||| (1 <<< (p2 &&& 31)))) vwishes vwishMany vsightLeft vsightRight vsightHow vsights vpad vpadMany vact vwho vwhich vwhom vacts vplace vopenMany vended vspoken vheaviest vheaviestWeight vhad vbadAct vbadWhy vbrings vbringsThen vkept visKept vkeptAt visWriting) H := hP
    have hD : va_D A (mdW K q vweight vkind vrhymes vpurse (upd vhas (p3).toNatClampNeg ((vhas (p3).toNatClampNeg) ||| (1 <<< (p2 &&& 31)))) vwishes vwishMany vsightLeft vsightRight vsightHow vsights vpad vpadMany vact vwho vwhich vwhom vacts vplace vopenMany vended vspoken vheaviest vheaviestWeight vhad vbadAct vbadWhy vbrings vbringsThen vkept visKept vkeptAt visWriting) := hD
    refine lv_aload_n hx hb dX5_happen_117 rfl (lv_at hl 0 rfl) ?_
    refine va_get (D := D) (ci := 5) (v := .ref (q 5)) (C := RX5) (T := TX5) (N := 33) hx hb hts inX5_happen_X5 hown hK hP 0 rfl rfl 4 (by decide) (hts (.fieldLink RX5 22 "WordScalesModel" "has" "[I") (List.mem_of_getElem? (i := 3) rfl)) (fun _ h9 => h9) rfl dX5_happen_118 ?_
    refine lv_iload_n hx hb dX5_happen_121 rfl (lv_at hl 2 rfl) ?_
    refine lv_dup2_11 hx hb dX5_happen_122 rfl rfl ?_
    obtain ⟨v11, hf⟩ := chk_el hf
    refine va_iald (D := D) (f := (upd vhas (p3).toNatClampNeg ((vhas (p3).toNatClampNeg) ||| (1 <<< (p2 &&& 31))))) hx hb hK hP 5 0 rfl rfl v11 dX5_happen_123 ?_
    refine lv_iconst (v := 1) hx hb dX5_happen_124 (by decide) ?_
    refine lv_iload_n hx hb dX5_happen_125 rfl (lv_at hl 3 rfl) ?_
    refine lv_ishl hx hb dX5_happen_126 ?_
    refine lv_iconst (v := (-1)) hx hb dX5_happen_127 (by decide) ?_
    refine lv_ixor hx hb dX5_happen_128 ?_
    refine lv_iand hx hb dX5_happen_129 ?_
    refine va_iast (D := D) (f := (upd vhas (p3).toNatClampNeg ((vhas (p3).toNatClampNeg) ||| (1 <<< (p2 &&& 31))))) hx hb hK hP hD hS 5 0 rfl rfl v11 dX5_happen_130 (fun H locs hP hD hS => ?_)
    have hP : va_P D vwCl (mdW K q vweight vkind vrhymes vpurse (upd (upd vhas (p3).toNatClampNeg ((vhas (p3).toNatClampNeg) ||| (1 <<< (p2 &&& 31)))) (p1).toNatClampNeg (((upd vhas (p3).toNatClampNeg ((vhas (p3).toNatClampNeg) ||| (1 <<< (p2 &&& 31)))) (p1).toNatClampNeg) &&& ((1 <<< (p2 &&& 31)) ^^^ (-1)))) vwishes vwishMany vsightLeft vsightRight vsightHow vsights vpad vpadMany vact vwho vwhich vwhom vacts vplace vopenMany vended vspoken vheaviest vheaviestWeight vhad vbadAct vbadWhy vbrings vbringsThen vkept visKept vkeptAt visWriting) H := hP
    have hD : va_D A (mdW K q vweight vkind vrhymes vpurse (upd (upd vhas (p3).toNatClampNeg ((vhas (p3).toNatClampNeg) ||| (1 <<< (p2 &&& 31)))) (p1).toNatClampNeg (((upd vhas (p3).toNatClampNeg ((vhas (p3).toNatClampNeg) ||| (1 <<< (p2 &&& 31)))) (p1).toNatClampNeg) &&& ((1 <<< (p2 &&& 31)) ^^^ (-1)))) vwishes vwishMany vsightLeft vsightRight vsightHow vsights vpad vpadMany vact vwho vwhich vwhom vacts vplace vopenMany vended vspoken vheaviest vheaviestWeight vhad vbadAct vbadWhy vbrings vbringsThen vkept visKept vkeptAt visWriting) := hD
    refine lv_goto (tgt := 154) hx hb dX5_happen_131 (by decide) ?_
    obtain rfl := Option.some.inj hf
    exact hret rfl hP hD hS dX5_happen_154
  · rw [if_neg c1, if_neg c2, if_neg c3, if_neg c4] at hf
    refine lv_aload_n hx hb dX5_happen_134 rfl (lv_at hl 0 rfl) ?_
    refine lv_dup hx hb dX5_happen_135 rfl ?_
    refine va_get (D := D) (ci := 5) (v := .int vended) (C := RX5) (T := TX5) (N := 33) hx hb hts inX5_happen_X5 hown hK hP 0 rfl rfl 20 (by decide) (hts (.fieldLink RX5 157 "WordScalesModel" "ended" "I") (List.mem_of_getElem? (i := 4) rfl)) (fun _ h9 => h9) rfl dX5_happen_136 ?_
    refine lv_iconst (v := 1) hx hb dX5_happen_139 (by decide) ?_
    refine lv_iadd hx hb dX5_happen_140 ?_
    refine va_put (D := D) (ci := 5) (v := .int (vended + 1)) (ty := .int) (C := RX5) (T := TX5) (N := 33) hx hb hts inX5_happen_X5 tyX5 tyX5_ok nmX5 hown hK hP hD hS 0 rfl rfl 20 (by decide) (hts (.fieldLink RX5 157 "WordScalesModel" "ended" "I") (List.mem_of_getElem? (i := 4) rfl)) (fun _ h9 => h9) rfl (tyX5_ok 20 (by decide)) rfl rfl (Nat.le_of_ble_eq_true rfl) dX5_happen_141 (fun H locs hP hD hS => ?_)
    have hP : va_P D vwCl (mdW K q vweight vkind vrhymes vpurse vhas vwishes vwishMany vsightLeft vsightRight vsightHow vsights vpad vpadMany vact vwho vwhich vwhom vacts vplace vopenMany (vended + 1) vspoken vheaviest vheaviestWeight vhad vbadAct vbadWhy vbrings vbringsThen vkept visKept vkeptAt visWriting) H := hP
    have hD : va_D A (mdW K q vweight vkind vrhymes vpurse vhas vwishes vwishMany vsightLeft vsightRight vsightHow vsights vpad vpadMany vact vwho vwhich vwhom vacts vplace vopenMany (vended + 1) vspoken vheaviest vheaviestWeight vhad vbadAct vbadWhy vbrings vbringsThen vkept visKept vkeptAt visWriting) := hD
    refine lv_aload_n hx hb dX5_happen_144 rfl (lv_at hl 0 rfl) ?_
    refine lv_iconst (v := 0) hx hb dX5_happen_145 (by decide) ?_
    refine va_put (D := D) (ci := 5) (v := .int 0) (ty := .int) (C := RX5) (T := TX5) (N := 33) hx hb hts inX5_happen_X5 tyX5 tyX5_ok nmX5 hown hK hP hD hS 0 rfl rfl 18 (by decide) (hts (.fieldLink RX5 135 "WordScalesModel" "place" "I") (List.mem_of_getElem? (i := 5) rfl)) (fun _ h9 => h9) rfl (tyX5_ok 18 (by decide)) rfl rfl (Nat.le_of_ble_eq_true rfl) dX5_happen_146 (fun H locs hP hD hS => ?_)
    have hP : va_P D vwCl (mdW K q vweight vkind vrhymes vpurse vhas vwishes vwishMany vsightLeft vsightRight vsightHow vsights vpad vpadMany vact vwho vwhich vwhom vacts 0 vopenMany (vended + 1) vspoken vheaviest vheaviestWeight vhad vbadAct vbadWhy vbrings vbringsThen vkept visKept vkeptAt visWriting) H := hP
    have hD : va_D A (mdW K q vweight vkind vrhymes vpurse vhas vwishes vwishMany vsightLeft vsightRight vsightHow vsights vpad vpadMany vact vwho vwhich vwhom vacts 0 vopenMany (vended + 1) vspoken vheaviest vheaviestWeight vhad vbadAct vbadWhy vbrings vbringsThen vkept visKept vkeptAt visWriting) := hD
    refine lv_aload_n hx hb dX5_happen_149 rfl (lv_at hl 0 rfl) ?_
    refine lv_iconst (v := 0) hx hb dX5_happen_150 (by decide) ?_
    refine va_put (D := D) (ci := 5) (v := .int 0) (ty := .int) (C := RX5) (T := TX5) (N := 33) hx hb hts inX5_happen_X5 tyX5 tyX5_ok nmX5 hown hK hP hD hS 0 rfl rfl 19 (by decide) (hts (.fieldLink RX5 145 "WordScalesModel" "openMany" "I") (List.mem_of_getElem? (i := 6) rfl)) (fun _ h9 => h9) rfl (tyX5_ok 19 (by decide)) rfl rfl (Nat.le_of_ble_eq_true rfl) dX5_happen_151 (fun H locs hP hD hS => ?_)
    have hP : va_P D vwCl (mdW K q vweight vkind vrhymes vpurse vhas vwishes vwishMany vsightLeft vsightRight vsightHow vsights vpad vpadMany vact vwho vwhich vwhom vacts 0 0 (vended + 1) vspoken vheaviest vheaviestWeight vhad vbadAct vbadWhy vbrings vbringsThen vkept visKept vkeptAt visWriting) H := hP
    have hD : va_D A (mdW K q vweight vkind vrhymes vpurse vhas vwishes vwishMany vsightLeft vsightRight vsightHow vsights vpad vpadMany vact vwho vwhich vwhom vacts 0 0 (vended + 1) vspoken vheaviest vheaviestWeight vhad vbadAct vbadWhy vbrings vbringsThen vkept visKept vkeptAt visWriting) := hD
    obtain rfl := Option.some.inj hf
    exact hret rfl hP hD hS dX5_happen_154
def s_X5_keepNow_28 (vpurse : Nat → Int32) (vhas : Nat → Int32) (x : Int32 × (Nat → Int32)) : Option ((Int32 × (Nat → Int32)) ⊕ (Int32 × (Nat → Int32))) := if 4 ≤ x.1 then (some (.inr (x.1, x.2))) else (chk x.1 4 (chk (12 + x.1) 20 (chk (16 + x.1) 20 (some (.inl ((x.1 + 1), (upd (upd x.2 ((12 + x.1)).toNatClampNeg (vpurse (x.1).toNatClampNeg)) ((16 + x.1)).toNatClampNeg (vhas (x.1).toNatClampNeg))))))))
def s_X5_keepNow_2 (vweight : Nat → Int32) (x : Int32 × (Nat → Int32)) : Option ((Int32 × (Nat → Int32)) ⊕ (Int32 × (Nat → Int32))) := if 12 ≤ x.1 then (some (.inr (x.1, x.2))) else (chk x.1 12 (chk x.1 20 (some (.inl ((x.1 + 1), (upd x.2 (x.1).toNatClampNeg (vweight (x.1).toNatClampNeg)))))))
def f_X5_keepNow (vweight : Nat → Int32) (vpurse : Nat → Int32) (vhas : Nat → Int32) (vhad : Nat → Int32) : Option ((Nat → Int32)) := ob (wh (s_X5_keepNow_2 vweight) 5000 (0, vhad)) (fun r1 => ob (wh (s_X5_keepNow_28 vpurse vhas) 5000 (0, r1.2)) (fun r2 => some r2.2))
theorem inX5_keepNow_X5 : ∀ w ∈ wsX50, w ∈ wsX5_keepNow := fun w h => List.mem_cons_of_mem _ (List.mem_append_right _ h)
theorem yd_X5_keepNow : yX5_keepNow.cls ≠ "java/lang/invoke/MethodHandle" ∧ yX5_keepNow.cls ≠ "java/lang/invoke/VarHandle" ∧ (parseMethodDescriptor yX5_keepNow.desc).map (fun d => d.parameters.length) = some 0 := by decide +kernel
abbrev rmX5_keepNow : Room := { frames := 0, cells := 0, slots := 0, locals := 0 }
set_option maxHeartbeats 4000000 in
set_option maxRecDepth 100000 in
theorem k_X5_keepNow (l : Launch) (D : va_G) (K : Nat → ClassId) (q : Nat → Nat) (vweight : Nat → Int32) (vkind : Nat → Int32) (vrhymes : Nat → Int32) (vpurse : Nat → Int32) (vhas : Nat → Int32) (vwishes : Nat → Int32) (vwishMany : Int32) (vsightLeft : Nat → Int32) (vsightRight : Nat → Int32) (vsightHow : Nat → Int32) (vsights : Int32) (vpad : Nat → Int32) (vpadMany : Int32) (vact : Nat → Int32) (vwho : Nat → Int32) (vwhich : Nat → Int32) (vwhom : Nat → Int32) (vacts : Int32) (vplace : Int32) (vopenMany : Int32) (vended : Int32) (vspoken : Int32) (vheaviest : Int32) (vheaviestWeight : Int32) (vhad : Nat → Int32) (vbadAct : Int32) (vbadWhy : Int32) (vbrings : Nat → Int64) (vbringsThen : Nat → Int64) (vkept : Nat → Int32) (visKept : Nat → Int32) (vkeptAt : Int32) (visWriting : Int32) (out : (Nat → Int32)) (hf : f_X5_keepNow vweight vpurse vhas vhad = some out) : kV l D K yX5_keepNow wsX5_keepNow rmX5_keepNow [.ref (q 0)] (mdW K q vweight vkind vrhymes vpurse vhas vwishes vwishMany vsightLeft vsightRight vsightHow vsights vpad vpadMany vact vwho vwhich vwhom vacts vplace vopenMany vended vspoken vheaviest vheaviestWeight vhad vbadAct vbadWhy vbrings vbringsThen vkept visKept vkeptAt visWriting) (mdW K q vweight vkind vrhymes vpurse vhas vwishes vwishMany vsightLeft vsightRight vsightHow vsights vpad vpadMany vact vwho vwhich vwhom vacts vplace vopenMany vended vspoken vheaviest vheaviestWeight out vbadAct vbadWhy vbrings vbringsThen vkept visKept vkeptAt visWriting) := by
  refine kV.of (cc := cX5_keepNow) (maxL := 2) (by decide) rfl (Nat.le_of_ble_eq_true rfl) ?_
  intro p e s m args below meth c A H0 Q ls hx hb hml hown hts hK hN hA hP hD hS hl hret
  have hown : s.vm.findClass RX5 = some m.cls := hown
  have hl : lv_has ls 2 [(0, .ref (q 0))] := hl
  generalize hH : H0 = H at hP ⊢
  have hS : va_S A H0 H [] := by rw [← hH]; exact hS
  clear hH
  unfold f_X5_keepNow at hf
  refine lv_iconst (v := 0) hx hb dX5_keepNow_0 (by decide) ?_
  refine lv_istore_n (lv' := [(1, .int 0), (0, .ref (q 0))]) hx hb dX5_keepNow_1 rfl hl (by decide) rfl (fun ls hl => ?_)
  obtain ⟨r1, hr1, hf⟩ := ob_el hf
  have post2 : ∀ (e2_l1 : Int32) (e2_had : Nat → Int32) (H : Heap) (locs : List Loc) (ls : Array Slot), (ob (wh (s_X5_keepNow_28 vpurse vhas) 5000 (0, e2_had)) (fun r2 => some r2.2)) = some out → va_P D vwCl (mdW K q vweight vkind vrhymes vpurse vhas vwishes vwishMany vsightLeft vsightRight vsightHow vsights vpad vpadMany vact vwho vwhich vwhom vacts vplace vopenMany vended vspoken vheaviest vheaviestWeight e2_had vbadAct vbadWhy vbrings vbringsThen vkept visKept vkeptAt visWriting) H → va_D A (mdW K q vweight vkind vrhymes vpurse vhas vwishes vwishMany vsightLeft vsightRight vsightHow vsights vpad vpadMany vact vwho vwhich vwhom vacts vplace vopenMany vended vspoken vheaviest vheaviestWeight e2_had vbadAct vbadWhy vbrings vbringsThen vkept visKept vkeptAt visWriting) → va_S A H0 H locs → lv_has ls 2 [(1, .int e2_l1), (0, .ref (q 0))] → W p l e rmX5_keepNow s m args below meth c H locs 0 0 Q (F0 m 26 ls []) := by
    intro e2_l1 e2_had H locs ls hf hP hD hS hl
    refine lv_iconst (v := 0) hx hb dX5_keepNow_26 (by decide) ?_
    refine lv_istore_n (lv' := [(1, .int 0), (0, .ref (q 0))]) hx hb dX5_keepNow_27 rfl hl (by decide) rfl (fun ls hl => ?_)
    obtain ⟨r2, hr2, hf⟩ := ob_el hf
    have post28 : ∀ (e28_l1 : Int32) (e28_had : Nat → Int32) (H : Heap) (locs : List Loc) (ls : Array Slot), (some e28_had) = some out → va_P D vwCl (mdW K q vweight vkind vrhymes vpurse vhas vwishes vwishMany vsightLeft vsightRight vsightHow vsights vpad vpadMany vact vwho vwhich vwhom vacts vplace vopenMany vended vspoken vheaviest vheaviestWeight e28_had vbadAct vbadWhy vbrings vbringsThen vkept visKept vkeptAt visWriting) H → va_D A (mdW K q vweight vkind vrhymes vpurse vhas vwishes vwishMany vsightLeft vsightRight vsightHow vsights vpad vpadMany vact vwho vwhich vwhom vacts vplace vopenMany vended vspoken vheaviest vheaviestWeight e28_had vbadAct vbadWhy vbrings vbringsThen vkept visKept vkeptAt visWriting) → va_S A H0 H locs → lv_has ls 2 [(1, .int e28_l1), (0, .ref (q 0))] → W p l e rmX5_keepNow s m args below meth c H locs 0 0 Q (F0 m 69 ls []) := by
      intro e28_l1 e28_had H locs ls hf hP hD hS hl
      obtain rfl := Option.some.inj hf
      exact hret rfl hP hD hS dX5_keepNow_69
    have lp28 : ∀ (fu : Nat) (x28_l1 : Int32) (x28_had : Nat → Int32) (H : Heap) (locs : List Loc) (ls : Array Slot), wh (s_X5_keepNow_28 vpurse vhas) fu (x28_l1, x28_had) = some r2 → va_P D vwCl (mdW K q vweight vkind vrhymes vpurse vhas vwishes vwishMany vsightLeft vsightRight vsightHow vsights vpad vpadMany vact vwho vwhich vwhom vacts vplace vopenMany vended vspoken vheaviest vheaviestWeight x28_had vbadAct vbadWhy vbrings vbringsThen vkept visKept vkeptAt visWriting) H → va_D A (mdW K q vweight vkind vrhymes vpurse vhas vwishes vwishMany vsightLeft vsightRight vsightHow vsights vpad vpadMany vact vwho vwhich vwhom vacts vplace vopenMany vended vspoken vheaviest vheaviestWeight x28_had vbadAct vbadWhy vbrings vbringsThen vkept visKept vkeptAt visWriting) → va_S A H0 H locs → lv_has ls 2 [(1, .int x28_l1), (0, .ref (q 0))] → W p l e rmX5_keepNow s m args below meth c H locs 0 0 Q (F0 m 28 ls []) := by
      intro fu
      induction fu with
      | zero => intro x28_l1 x28_had H locs ls hw28; cases hw28
      | succ fu ih28 =>
        intro x28_l1 x28_had H locs ls hw28 hP hD hS hl
        obtain ⟨o28_, hs28, hw28⟩ := wh_el hw28
        unfold s_X5_keepNow_28 at hs28
        dsimp only at hs28
        refine lv_iload_n hx hb dX5_keepNow_28 rfl (lv_at hl 0 rfl) ?_
        refine lv_iconst (v := 4) hx hb dX5_keepNow_29 (by decide) ?_
        refine lv_icmp_ge (tgt := 69) hx hb dX5_keepNow_30 (by decide) (fun c3 => ?_) (fun c3 => ?_)
        · rw [if_pos c3] at hs28
          obtain rfl := Option.some.inj hs28
          have e9 := Option.some.inj hw28
          rw [← e9] at hf
          exact post28 _ _ _ _ _ hf hP hD hS (lv_sub hl [0, 1] rfl)
        · rw [if_neg c3] at hs28
          refine lv_aload_n hx hb dX5_keepNow_33 rfl (lv_at hl 1 rfl) ?_
          refine va_get (D := D) (ci := 5) (v := .ref (q 15)) (C := RX5) (T := TX5) (N := 33) hx hb hts inX5_keepNow_X5 hown hK hP 0 rfl rfl 24 (by decide) (hts (.fieldLink RX5 52 "WordScalesModel" "had" "[I") (List.mem_of_getElem? (i := 1) rfl)) (fun _ h9 => h9) rfl dX5_keepNow_34 ?_
          refine lv_bipush (v := 12) hx hb dX5_keepNow_37 (by decide) ?_
          refine lv_iload_n hx hb dX5_keepNow_39 rfl (lv_at hl 0 rfl) ?_
          refine lv_iadd hx hb dX5_keepNow_40 ?_
          refine lv_aload_n hx hb dX5_keepNow_41 rfl (lv_at hl 1 rfl) ?_
          refine va_get (D := D) (ci := 5) (v := .ref (q 4)) (C := RX5) (T := TX5) (N := 33) hx hb hts inX5_keepNow_X5 hown hK hP 0 rfl rfl 3 (by decide) (hts (.fieldLink RX5 19 "WordScalesModel" "purse" "[I") (List.mem_of_getElem? (i := 3) rfl)) (fun _ h9 => h9) rfl dX5_keepNow_42 ?_
          refine lv_iload_n hx hb dX5_keepNow_45 rfl (lv_at hl 0 rfl) ?_
          obtain ⟨v4, hs28⟩ := chk_el hs28
          refine va_iald (D := D) (f := vpurse) hx hb hK hP 4 0 rfl rfl v4 dX5_keepNow_46 ?_
          obtain ⟨v5, hs28⟩ := chk_el hs28
          refine va_iast (D := D) (f := x28_had) hx hb hK hP hD hS 15 0 rfl rfl v5 dX5_keepNow_47 (fun H locs hP hD hS => ?_)
          have hP : va_P D vwCl (mdW K q vweight vkind vrhymes vpurse vhas vwishes vwishMany vsightLeft vsightRight vsightHow vsights vpad vpadMany vact vwho vwhich vwhom vacts vplace vopenMany vended vspoken vheaviest vheaviestWeight (upd x28_had ((12 + x28_l1)).toNatClampNeg (vpurse (x28_l1).toNatClampNeg)) vbadAct vbadWhy vbrings vbringsThen vkept visKept vkeptAt visWriting) H := hP
          have hD : va_D A (mdW K q vweight vkind vrhymes vpurse vhas vwishes vwishMany vsightLeft vsightRight vsightHow vsights vpad vpadMany vact vwho vwhich vwhom vacts vplace vopenMany vended vspoken vheaviest vheaviestWeight (upd x28_had ((12 + x28_l1)).toNatClampNeg (vpurse (x28_l1).toNatClampNeg)) vbadAct vbadWhy vbrings vbringsThen vkept visKept vkeptAt visWriting) := hD
          refine lv_aload_n hx hb dX5_keepNow_48 rfl (lv_at hl 1 rfl) ?_
          refine va_get (D := D) (ci := 5) (v := .ref (q 15)) (C := RX5) (T := TX5) (N := 33) hx hb hts inX5_keepNow_X5 hown hK hP 0 rfl rfl 24 (by decide) (hts (.fieldLink RX5 52 "WordScalesModel" "had" "[I") (List.mem_of_getElem? (i := 1) rfl)) (fun _ h9 => h9) rfl dX5_keepNow_49 ?_
          refine lv_bipush (v := 16) hx hb dX5_keepNow_52 (by decide) ?_
          refine lv_iload_n hx hb dX5_keepNow_54 rfl (lv_at hl 0 rfl) ?_
          refine lv_iadd hx hb dX5_keepNow_55 ?_
          refine lv_aload_n hx hb dX5_keepNow_56 rfl (lv_at hl 1 rfl) ?_
          refine va_get (D := D) (ci := 5) (v := .ref (q 5)) (C := RX5) (T := TX5) (N := 33) hx hb hts inX5_keepNow_X5 hown hK hP 0 rfl rfl 4 (by decide) (hts (.fieldLink RX5 22 "WordScalesModel" "has" "[I") (List.mem_of_getElem? (i := 4) rfl)) (fun _ h9 => h9) rfl dX5_keepNow_57 ?_
          refine lv_iload_n hx hb dX5_keepNow_60 rfl (lv_at hl 0 rfl) ?_
          refine va_iald (D := D) (f := vhas) hx hb hK hP 5 0 rfl rfl v4 dX5_keepNow_61 ?_
          obtain ⟨v6, hs28⟩ := chk_el hs28
          refine va_iast (D := D) (f := (upd x28_had ((12 + x28_l1)).toNatClampNeg (vpurse (x28_l1).toNatClampNeg))) hx hb hK hP hD hS 15 0 rfl rfl v6 dX5_keepNow_62 (fun H locs hP hD hS => ?_)
          have hP : va_P D vwCl (mdW K q vweight vkind vrhymes vpurse vhas vwishes vwishMany vsightLeft vsightRight vsightHow vsights vpad vpadMany vact vwho vwhich vwhom vacts vplace vopenMany vended vspoken vheaviest vheaviestWeight (upd (upd x28_had ((12 + x28_l1)).toNatClampNeg (vpurse (x28_l1).toNatClampNeg)) ((16 + x28_l1)).toNatClampNeg (vhas (x28_l1).toNatClampNeg)) vbadAct vbadWhy vbrings vbringsThen vkept visKept vkeptAt visWriting) H := hP
          have hD : va_D A (mdW K q vweight vkind vrhymes vpurse vhas vwishes vwishMany vsightLeft vsightRight vsightHow vsights vpad vpadMany vact vwho vwhich vwhom vacts vplace vopenMany vended vspoken vheaviest vheaviestWeight (upd (upd x28_had ((12 + x28_l1)).toNatClampNeg (vpurse (x28_l1).toNatClampNeg)) ((16 + x28_l1)).toNatClampNeg (vhas (x28_l1).toNatClampNeg)) vbadAct vbadWhy vbrings vbringsThen vkept visKept vkeptAt visWriting) := hD
          refine lv_iinc (v := (x28_l1 + 1)) (lv' := [(1, .int (x28_l1 + 1)), (0, .ref (q 0))]) hx hb dX5_keepNow_63 hl (k := 0) rfl (by rfl) (by decide) rfl (fun ls hl => ?_)
          refine lv_goto (tgt := 28) hx hb dX5_keepNow_66 (by decide) ?_
          obtain rfl := Option.some.inj hs28
          exact ih28 _ _ _ _ _ hw28 hP hD hS (lv_sub hl [0, 1] rfl)
    exact lp28 5000 _ _ _ _ _ hr2 hP hD hS (lv_sub hl [0, 1] rfl)
  have lp2 : ∀ (fu : Nat) (x2_l1 : Int32) (x2_had : Nat → Int32) (H : Heap) (locs : List Loc) (ls : Array Slot), wh (s_X5_keepNow_2 vweight) fu (x2_l1, x2_had) = some r1 → va_P D vwCl (mdW K q vweight vkind vrhymes vpurse vhas vwishes vwishMany vsightLeft vsightRight vsightHow vsights vpad vpadMany vact vwho vwhich vwhom vacts vplace vopenMany vended vspoken vheaviest vheaviestWeight x2_had vbadAct vbadWhy vbrings vbringsThen vkept visKept vkeptAt visWriting) H → va_D A (mdW K q vweight vkind vrhymes vpurse vhas vwishes vwishMany vsightLeft vsightRight vsightHow vsights vpad vpadMany vact vwho vwhich vwhom vacts vplace vopenMany vended vspoken vheaviest vheaviestWeight x2_had vbadAct vbadWhy vbrings vbringsThen vkept visKept vkeptAt visWriting) → va_S A H0 H locs → lv_has ls 2 [(1, .int x2_l1), (0, .ref (q 0))] → W p l e rmX5_keepNow s m args below meth c H locs 0 0 Q (F0 m 2 ls []) := by
    intro fu
    induction fu with
    | zero => intro x2_l1 x2_had H locs ls hw2; cases hw2
    | succ fu ih2 =>
      intro x2_l1 x2_had H locs ls hw2 hP hD hS hl
      obtain ⟨o2_, hs2, hw2⟩ := wh_el hw2
      unfold s_X5_keepNow_2 at hs2
      dsimp only at hs2
      refine lv_iload_n hx hb dX5_keepNow_2 rfl (lv_at hl 0 rfl) ?_
      refine lv_bipush (v := 12) hx hb dX5_keepNow_3 (by decide) ?_
      refine lv_icmp_ge (tgt := 26) hx hb dX5_keepNow_5 (by decide) (fun c7 => ?_) (fun c7 => ?_)
      · rw [if_pos c7] at hs2
        obtain rfl := Option.some.inj hs2
        have e9 := Option.some.inj hw2
        rw [← e9] at hf
        exact post2 _ _ _ _ _ hf hP hD hS (lv_sub hl [0, 1] rfl)
      · rw [if_neg c7] at hs2
        refine lv_aload_n hx hb dX5_keepNow_8 rfl (lv_at hl 1 rfl) ?_
        refine va_get (D := D) (ci := 5) (v := .ref (q 15)) (C := RX5) (T := TX5) (N := 33) hx hb hts inX5_keepNow_X5 hown hK hP 0 rfl rfl 24 (by decide) (hts (.fieldLink RX5 52 "WordScalesModel" "had" "[I") (List.mem_of_getElem? (i := 1) rfl)) (fun _ h9 => h9) rfl dX5_keepNow_9 ?_
        refine lv_iload_n hx hb dX5_keepNow_12 rfl (lv_at hl 0 rfl) ?_
        refine lv_aload_n hx hb dX5_keepNow_13 rfl (lv_at hl 1 rfl) ?_
        refine va_get (D := D) (ci := 5) (v := .ref (q 1)) (C := RX5) (T := TX5) (N := 33) hx hb hts inX5_keepNow_X5 hown hK hP 0 rfl rfl 0 (by decide) (hts (.fieldLink RX5 7 "WordScalesModel" "weight" "[I") (List.mem_of_getElem? (i := 2) rfl)) (fun _ h9 => h9) rfl dX5_keepNow_14 ?_
        refine lv_iload_n hx hb dX5_keepNow_17 rfl (lv_at hl 0 rfl) ?_
        obtain ⟨v8, hs2⟩ := chk_el hs2
        refine va_iald (D := D) (f := vweight) hx hb hK hP 1 0 rfl rfl v8 dX5_keepNow_18 ?_
        obtain ⟨v9, hs2⟩ := chk_el hs2
        refine va_iast (D := D) (f := x2_had) hx hb hK hP hD hS 15 0 rfl rfl v9 dX5_keepNow_19 (fun H locs hP hD hS => ?_)
        have hP : va_P D vwCl (mdW K q vweight vkind vrhymes vpurse vhas vwishes vwishMany vsightLeft vsightRight vsightHow vsights vpad vpadMany vact vwho vwhich vwhom vacts vplace vopenMany vended vspoken vheaviest vheaviestWeight (upd x2_had (x2_l1).toNatClampNeg (vweight (x2_l1).toNatClampNeg)) vbadAct vbadWhy vbrings vbringsThen vkept visKept vkeptAt visWriting) H := hP
        have hD : va_D A (mdW K q vweight vkind vrhymes vpurse vhas vwishes vwishMany vsightLeft vsightRight vsightHow vsights vpad vpadMany vact vwho vwhich vwhom vacts vplace vopenMany vended vspoken vheaviest vheaviestWeight (upd x2_had (x2_l1).toNatClampNeg (vweight (x2_l1).toNatClampNeg)) vbadAct vbadWhy vbrings vbringsThen vkept visKept vkeptAt visWriting) := hD
        refine lv_iinc (v := (x2_l1 + 1)) (lv' := [(1, .int (x2_l1 + 1)), (0, .ref (q 0))]) hx hb dX5_keepNow_20 hl (k := 0) rfl (by rfl) (by decide) rfl (fun ls hl => ?_)
        refine lv_goto (tgt := 2) hx hb dX5_keepNow_23 (by decide) ?_
        obtain rfl := Option.some.inj hs2
        exact ih2 _ _ _ _ _ hw2 hP hD hS (lv_sub hl [0, 1] rfl)
  exact lp2 5000 _ _ _ _ _ hr1 hP hD hS (lv_sub hl [0, 1] rfl)
def s_X5_back_28 (vhad : Nat → Int32) (x : Int32 × (Nat → Int32) × (Nat → Int32)) : Option ((Int32 × (Nat → Int32) × (Nat → Int32)) ⊕ (Int32 × (Nat → Int32) × (Nat → Int32))) := if 4 ≤ x.1 then (some (.inr (x.1, x.2.1, x.2.2))) else (chk (12 + x.1) 20 (chk x.1 4 (chk (16 + x.1) 20 (some (.inl ((x.1 + 1), (upd x.2.1 (x.1).toNatClampNeg (vhad ((16 + x.1)).toNatClampNeg)), (upd x.2.2 (x.1).toNatClampNeg (vhad ((12 + x.1)).toNatClampNeg))))))))
def s_X5_back_2 (vhad : Nat → Int32) (x : Int32 × (Nat → Int32)) : Option ((Int32 × (Nat → Int32)) ⊕ (Int32 × (Nat → Int32))) := if 12 ≤ x.1 then (some (.inr (x.1, x.2))) else (chk x.1 20 (chk x.1 12 (some (.inl ((x.1 + 1), (upd x.2 (x.1).toNatClampNeg (vhad (x.1).toNatClampNeg)))))))
def f_X5_back (vweight : Nat → Int32) (vpurse : Nat → Int32) (vhas : Nat → Int32) (vhad : Nat → Int32) (p0 : Int32) : Option (Int32 × (Nat → Int32) × (Nat → Int32) × (Nat → Int32)) := ob (wh (s_X5_back_2 vhad) 5000 (0, vweight)) (fun r1 => ob (wh (s_X5_back_28 vhad) 5000 (0, vhas, vpurse)) (fun r2 => some (p0, r1.2, r2.2.2, r2.2.1)))
theorem inX5_back_X5 : ∀ w ∈ wsX50, w ∈ wsX5_back := fun w h => List.mem_cons_of_mem _ (List.mem_append_right _ h)
theorem yd_X5_back : yX5_back.cls ≠ "java/lang/invoke/MethodHandle" ∧ yX5_back.cls ≠ "java/lang/invoke/VarHandle" ∧ (parseMethodDescriptor yX5_back.desc).map (fun d => d.parameters.length) = some 1 := by decide +kernel
abbrev rmX5_back : Room := { frames := 0, cells := 0, slots := 0, locals := 0 }
set_option maxHeartbeats 4000000 in
set_option maxRecDepth 100000 in
theorem k_X5_back (l : Launch) (D : va_G) (K : Nat → ClassId) (q : Nat → Nat) (vweight : Nat → Int32) (vkind : Nat → Int32) (vrhymes : Nat → Int32) (vpurse : Nat → Int32) (vhas : Nat → Int32) (vwishes : Nat → Int32) (vwishMany : Int32) (vsightLeft : Nat → Int32) (vsightRight : Nat → Int32) (vsightHow : Nat → Int32) (vsights : Int32) (vpad : Nat → Int32) (vpadMany : Int32) (vact : Nat → Int32) (vwho : Nat → Int32) (vwhich : Nat → Int32) (vwhom : Nat → Int32) (vacts : Int32) (vplace : Int32) (vopenMany : Int32) (vended : Int32) (vspoken : Int32) (vheaviest : Int32) (vheaviestWeight : Int32) (vhad : Nat → Int32) (vbadAct : Int32) (vbadWhy : Int32) (vbrings : Nat → Int64) (vbringsThen : Nat → Int64) (vkept : Nat → Int32) (visKept : Nat → Int32) (vkeptAt : Int32) (visWriting : Int32) (p0 : Int32) (out : Int32 × (Nat → Int32) × (Nat → Int32) × (Nat → Int32)) (hf : f_X5_back vweight vpurse vhas vhad p0 = some out) : kI l D K .int yX5_back wsX5_back rmX5_back [.ref (q 0), .int p0] (mdW K q vweight vkind vrhymes vpurse vhas vwishes vwishMany vsightLeft vsightRight vsightHow vsights vpad vpadMany vact vwho vwhich vwhom vacts vplace vopenMany vended vspoken vheaviest vheaviestWeight vhad vbadAct vbadWhy vbrings vbringsThen vkept visKept vkeptAt visWriting) out.1 (mdW K q out.2.1 vkind vrhymes out.2.2.1 out.2.2.2 vwishes vwishMany vsightLeft vsightRight vsightHow vsights vpad vpadMany vact vwho vwhich vwhom vacts vplace vopenMany vended vspoken vheaviest vheaviestWeight vhad vbadAct vbadWhy vbrings vbringsThen vkept visKept vkeptAt visWriting) := by
  refine kI.of (cc := cX5_back) (maxL := 3) (by decide) rfl (Nat.le_of_ble_eq_true rfl) ?_
  intro p e s m args below meth c A H0 Q ls hx hb hml hown hts hK hN hA hP hD hS hl hret
  have hown : s.vm.findClass RX5 = some m.cls := hown
  have hl : lv_has ls 3 [(0, .ref (q 0)), (1, .int p0)] := hl
  generalize hH : H0 = H at hP ⊢
  have hS : va_S A H0 H [] := by rw [← hH]; exact hS
  clear hH
  unfold f_X5_back at hf
  refine lv_iconst (v := 0) hx hb dX5_back_0 (by decide) ?_
  refine lv_istore_n (lv' := [(2, .int 0), (0, .ref (q 0)), (1, .int p0)]) hx hb dX5_back_1 rfl hl (by decide) rfl (fun ls hl => ?_)
  obtain ⟨r1, hr1, hf⟩ := ob_el hf
  have post2 : ∀ (e2_l2 : Int32) (e2_weight : Nat → Int32) (H : Heap) (locs : List Loc) (ls : Array Slot), (ob (wh (s_X5_back_28 vhad) 5000 (0, vhas, vpurse)) (fun r2 => some (p0, e2_weight, r2.2.2, r2.2.1))) = some out → va_P D vwCl (mdW K q e2_weight vkind vrhymes vpurse vhas vwishes vwishMany vsightLeft vsightRight vsightHow vsights vpad vpadMany vact vwho vwhich vwhom vacts vplace vopenMany vended vspoken vheaviest vheaviestWeight vhad vbadAct vbadWhy vbrings vbringsThen vkept visKept vkeptAt visWriting) H → va_D A (mdW K q e2_weight vkind vrhymes vpurse vhas vwishes vwishMany vsightLeft vsightRight vsightHow vsights vpad vpadMany vact vwho vwhich vwhom vacts vplace vopenMany vended vspoken vheaviest vheaviestWeight vhad vbadAct vbadWhy vbrings vbringsThen vkept visKept vkeptAt visWriting) → va_S A H0 H locs → lv_has ls 3 [(2, .int e2_l2), (0, .ref (q 0)), (1, .int p0)] → W p l e rmX5_back s m args below meth c H locs 0 0 Q (F0 m 26 ls []) := by
    intro e2_l2 e2_weight H locs ls hf hP hD hS hl
    refine lv_iconst (v := 0) hx hb dX5_back_26 (by decide) ?_
    refine lv_istore_n (lv' := [(2, .int 0), (0, .ref (q 0)), (1, .int p0)]) hx hb dX5_back_27 rfl hl (by decide) rfl (fun ls hl => ?_)
    obtain ⟨r2, hr2, hf⟩ := ob_el hf
    have post28 : ∀ (e28_l2 : Int32) (e28_has : Nat → Int32) (e28_purse : Nat → Int32) (H : Heap) (locs : List Loc) (ls : Array Slot), (some (p0, e2_weight, e28_purse, e28_has)) = some out → va_P D vwCl (mdW K q e2_weight vkind vrhymes e28_purse e28_has vwishes vwishMany vsightLeft vsightRight vsightHow vsights vpad vpadMany vact vwho vwhich vwhom vacts vplace vopenMany vended vspoken vheaviest vheaviestWeight vhad vbadAct vbadWhy vbrings vbringsThen vkept visKept vkeptAt visWriting) H → va_D A (mdW K q e2_weight vkind vrhymes e28_purse e28_has vwishes vwishMany vsightLeft vsightRight vsightHow vsights vpad vpadMany vact vwho vwhich vwhom vacts vplace vopenMany vended vspoken vheaviest vheaviestWeight vhad vbadAct vbadWhy vbrings vbringsThen vkept visKept vkeptAt visWriting) → va_S A H0 H locs → lv_has ls 3 [(2, .int e28_l2), (0, .ref (q 0)), (1, .int p0)] → W p l e rmX5_back s m args below meth c H locs 0 0 Q (F0 m 69 ls []) := by
      intro e28_l2 e28_has e28_purse H locs ls hf hP hD hS hl
      refine lv_iload_n hx hb dX5_back_69 rfl (lv_at hl 2 rfl) ?_
      obtain rfl := Option.some.inj hf
      exact hret rfl rfl rfl hP hD hS dX5_back_70
    have lp28 : ∀ (fu : Nat) (x28_l2 : Int32) (x28_has : Nat → Int32) (x28_purse : Nat → Int32) (H : Heap) (locs : List Loc) (ls : Array Slot), wh (s_X5_back_28 vhad) fu (x28_l2, x28_has, x28_purse) = some r2 → va_P D vwCl (mdW K q e2_weight vkind vrhymes x28_purse x28_has vwishes vwishMany vsightLeft vsightRight vsightHow vsights vpad vpadMany vact vwho vwhich vwhom vacts vplace vopenMany vended vspoken vheaviest vheaviestWeight vhad vbadAct vbadWhy vbrings vbringsThen vkept visKept vkeptAt visWriting) H → va_D A (mdW K q e2_weight vkind vrhymes x28_purse x28_has vwishes vwishMany vsightLeft vsightRight vsightHow vsights vpad vpadMany vact vwho vwhich vwhom vacts vplace vopenMany vended vspoken vheaviest vheaviestWeight vhad vbadAct vbadWhy vbrings vbringsThen vkept visKept vkeptAt visWriting) → va_S A H0 H locs → lv_has ls 3 [(2, .int x28_l2), (0, .ref (q 0)), (1, .int p0)] → W p l e rmX5_back s m args below meth c H locs 0 0 Q (F0 m 28 ls []) := by
      intro fu
      induction fu with
      | zero => intro x28_l2 x28_has x28_purse H locs ls hw28; cases hw28
      | succ fu ih28 =>
        intro x28_l2 x28_has x28_purse H locs ls hw28 hP hD hS hl
        obtain ⟨o28_, hs28, hw28⟩ := wh_el hw28
        unfold s_X5_back_28 at hs28
        dsimp only at hs28
        refine lv_iload_n hx hb dX5_back_28 rfl (lv_at hl 0 rfl) ?_
        refine lv_iconst (v := 4) hx hb dX5_back_29 (by decide) ?_
        refine lv_icmp_ge (tgt := 69) hx hb dX5_back_30 (by decide) (fun c3 => ?_) (fun c3 => ?_)
        · rw [if_pos c3] at hs28
          obtain rfl := Option.some.inj hs28
          have e9 := Option.some.inj hw28
          rw [← e9] at hf
          exact post28 _ _ _ _ _ _ hf hP hD hS (lv_sub hl [0, 1, 2] rfl)
        · rw [if_neg c3] at hs28
          refine lv_aload_n hx hb dX5_back_33 rfl (lv_at hl 1 rfl) ?_
          refine va_get (D := D) (ci := 5) (v := .ref (q 4)) (C := RX5) (T := TX5) (N := 33) hx hb hts inX5_back_X5 hown hK hP 0 rfl rfl 3 (by decide) (hts (.fieldLink RX5 19 "WordScalesModel" "purse" "[I") (List.mem_of_getElem? (i := 3) rfl)) (fun _ h9 => h9) rfl dX5_back_34 ?_
          refine lv_iload_n hx hb dX5_back_37 rfl (lv_at hl 0 rfl) ?_
          refine lv_aload_n hx hb dX5_back_38 rfl (lv_at hl 1 rfl) ?_
          refine va_get (D := D) (ci := 5) (v := .ref (q 15)) (C := RX5) (T := TX5) (N := 33) hx hb hts inX5_back_X5 hown hK hP 0 rfl rfl 24 (by decide) (hts (.fieldLink RX5 52 "WordScalesModel" "had" "[I") (List.mem_of_getElem? (i := 2) rfl)) (fun _ h9 => h9) rfl dX5_back_39 ?_
          refine lv_bipush (v := 12) hx hb dX5_back_42 (by decide) ?_
          refine lv_iload_n hx hb dX5_back_44 rfl (lv_at hl 0 rfl) ?_
          refine lv_iadd hx hb dX5_back_45 ?_
          obtain ⟨v4, hs28⟩ := chk_el hs28
          refine va_iald (D := D) (f := vhad) hx hb hK hP 15 0 rfl rfl v4 dX5_back_46 ?_
          obtain ⟨v5, hs28⟩ := chk_el hs28
          refine va_iast (D := D) (f := x28_purse) hx hb hK hP hD hS 4 0 rfl rfl v5 dX5_back_47 (fun H locs hP hD hS => ?_)
          have hP : va_P D vwCl (mdW K q e2_weight vkind vrhymes (upd x28_purse (x28_l2).toNatClampNeg (vhad ((12 + x28_l2)).toNatClampNeg)) x28_has vwishes vwishMany vsightLeft vsightRight vsightHow vsights vpad vpadMany vact vwho vwhich vwhom vacts vplace vopenMany vended vspoken vheaviest vheaviestWeight vhad vbadAct vbadWhy vbrings vbringsThen vkept visKept vkeptAt visWriting) H := hP
          have hD : va_D A (mdW K q e2_weight vkind vrhymes (upd x28_purse (x28_l2).toNatClampNeg (vhad ((12 + x28_l2)).toNatClampNeg)) x28_has vwishes vwishMany vsightLeft vsightRight vsightHow vsights vpad vpadMany vact vwho vwhich vwhom vacts vplace vopenMany vended vspoken vheaviest vheaviestWeight vhad vbadAct vbadWhy vbrings vbringsThen vkept visKept vkeptAt visWriting) := hD
          refine lv_aload_n hx hb dX5_back_48 rfl (lv_at hl 1 rfl) ?_
          refine va_get (D := D) (ci := 5) (v := .ref (q 5)) (C := RX5) (T := TX5) (N := 33) hx hb hts inX5_back_X5 hown hK hP 0 rfl rfl 4 (by decide) (hts (.fieldLink RX5 22 "WordScalesModel" "has" "[I") (List.mem_of_getElem? (i := 4) rfl)) (fun _ h9 => h9) rfl dX5_back_49 ?_
          refine lv_iload_n hx hb dX5_back_52 rfl (lv_at hl 0 rfl) ?_
          refine lv_aload_n hx hb dX5_back_53 rfl (lv_at hl 1 rfl) ?_
          refine va_get (D := D) (ci := 5) (v := .ref (q 15)) (C := RX5) (T := TX5) (N := 33) hx hb hts inX5_back_X5 hown hK hP 0 rfl rfl 24 (by decide) (hts (.fieldLink RX5 52 "WordScalesModel" "had" "[I") (List.mem_of_getElem? (i := 2) rfl)) (fun _ h9 => h9) rfl dX5_back_54 ?_
          refine lv_bipush (v := 16) hx hb dX5_back_57 (by decide) ?_
          refine lv_iload_n hx hb dX5_back_59 rfl (lv_at hl 0 rfl) ?_
          refine lv_iadd hx hb dX5_back_60 ?_
          obtain ⟨v6, hs28⟩ := chk_el hs28
          refine va_iald (D := D) (f := vhad) hx hb hK hP 15 0 rfl rfl v6 dX5_back_61 ?_
          refine va_iast (D := D) (f := x28_has) hx hb hK hP hD hS 5 0 rfl rfl v5 dX5_back_62 (fun H locs hP hD hS => ?_)
          have hP : va_P D vwCl (mdW K q e2_weight vkind vrhymes (upd x28_purse (x28_l2).toNatClampNeg (vhad ((12 + x28_l2)).toNatClampNeg)) (upd x28_has (x28_l2).toNatClampNeg (vhad ((16 + x28_l2)).toNatClampNeg)) vwishes vwishMany vsightLeft vsightRight vsightHow vsights vpad vpadMany vact vwho vwhich vwhom vacts vplace vopenMany vended vspoken vheaviest vheaviestWeight vhad vbadAct vbadWhy vbrings vbringsThen vkept visKept vkeptAt visWriting) H := hP
          have hD : va_D A (mdW K q e2_weight vkind vrhymes (upd x28_purse (x28_l2).toNatClampNeg (vhad ((12 + x28_l2)).toNatClampNeg)) (upd x28_has (x28_l2).toNatClampNeg (vhad ((16 + x28_l2)).toNatClampNeg)) vwishes vwishMany vsightLeft vsightRight vsightHow vsights vpad vpadMany vact vwho vwhich vwhom vacts vplace vopenMany vended vspoken vheaviest vheaviestWeight vhad vbadAct vbadWhy vbrings vbringsThen vkept visKept vkeptAt visWriting) := hD
          refine lv_iinc (v := (x28_l2 + 1)) (lv' := [(2, .int (x28_l2 + 1)), (0, .ref (q 0)), (1, .int p0)]) hx hb dX5_back_63 hl (k := 0) rfl (by rfl) (by decide) rfl (fun ls hl => ?_)
          refine lv_goto (tgt := 28) hx hb dX5_back_66 (by decide) ?_
          obtain rfl := Option.some.inj hs28
          exact ih28 _ _ _ _ _ _ hw28 hP hD hS (lv_sub hl [0, 1, 2] rfl)
    exact lp28 5000 _ _ _ _ _ _ hr2 hP hD hS (lv_sub hl [0, 1, 2] rfl)
  have lp2 : ∀ (fu : Nat) (x2_l2 : Int32) (x2_weight : Nat → Int32) (H : Heap) (locs : List Loc) (ls : Array Slot), wh (s_X5_back_2 vhad) fu (x2_l2, x2_weight) = some r1 → va_P D vwCl (mdW K q x2_weight vkind vrhymes vpurse vhas vwishes vwishMany vsightLeft vsightRight vsightHow vsights vpad vpadMany vact vwho vwhich vwhom vacts vplace vopenMany vended vspoken vheaviest vheaviestWeight vhad vbadAct vbadWhy vbrings vbringsThen vkept visKept vkeptAt visWriting) H → va_D A (mdW K q x2_weight vkind vrhymes vpurse vhas vwishes vwishMany vsightLeft vsightRight vsightHow vsights vpad vpadMany vact vwho vwhich vwhom vacts vplace vopenMany vended vspoken vheaviest vheaviestWeight vhad vbadAct vbadWhy vbrings vbringsThen vkept visKept vkeptAt visWriting) → va_S A H0 H locs → lv_has ls 3 [(2, .int x2_l2), (0, .ref (q 0)), (1, .int p0)] → W p l e rmX5_back s m args below meth c H locs 0 0 Q (F0 m 2 ls []) := by
    intro fu
    induction fu with
    | zero => intro x2_l2 x2_weight H locs ls hw2; cases hw2
    | succ fu ih2 =>
      intro x2_l2 x2_weight H locs ls hw2 hP hD hS hl
      obtain ⟨o2_, hs2, hw2⟩ := wh_el hw2
      unfold s_X5_back_2 at hs2
      dsimp only at hs2
      refine lv_iload_n hx hb dX5_back_2 rfl (lv_at hl 0 rfl) ?_
      refine lv_bipush (v := 12) hx hb dX5_back_3 (by decide) ?_
      refine lv_icmp_ge (tgt := 26) hx hb dX5_back_5 (by decide) (fun c7 => ?_) (fun c7 => ?_)
      · rw [if_pos c7] at hs2
        obtain rfl := Option.some.inj hs2
        have e9 := Option.some.inj hw2
        rw [← e9] at hf
        exact post2 _ _ _ _ _ hf hP hD hS (lv_sub hl [0, 1, 2] rfl)
      · rw [if_neg c7] at hs2
        refine lv_aload_n hx hb dX5_back_8 rfl (lv_at hl 1 rfl) ?_
        refine va_get (D := D) (ci := 5) (v := .ref (q 1)) (C := RX5) (T := TX5) (N := 33) hx hb hts inX5_back_X5 hown hK hP 0 rfl rfl 0 (by decide) (hts (.fieldLink RX5 7 "WordScalesModel" "weight" "[I") (List.mem_of_getElem? (i := 1) rfl)) (fun _ h9 => h9) rfl dX5_back_9 ?_
        refine lv_iload_n hx hb dX5_back_12 rfl (lv_at hl 0 rfl) ?_
        refine lv_aload_n hx hb dX5_back_13 rfl (lv_at hl 1 rfl) ?_
        refine va_get (D := D) (ci := 5) (v := .ref (q 15)) (C := RX5) (T := TX5) (N := 33) hx hb hts inX5_back_X5 hown hK hP 0 rfl rfl 24 (by decide) (hts (.fieldLink RX5 52 "WordScalesModel" "had" "[I") (List.mem_of_getElem? (i := 2) rfl)) (fun _ h9 => h9) rfl dX5_back_14 ?_
        refine lv_iload_n hx hb dX5_back_17 rfl (lv_at hl 0 rfl) ?_
        obtain ⟨v8, hs2⟩ := chk_el hs2
        refine va_iald (D := D) (f := vhad) hx hb hK hP 15 0 rfl rfl v8 dX5_back_18 ?_
        obtain ⟨v9, hs2⟩ := chk_el hs2
        refine va_iast (D := D) (f := x2_weight) hx hb hK hP hD hS 1 0 rfl rfl v9 dX5_back_19 (fun H locs hP hD hS => ?_)
        have hP : va_P D vwCl (mdW K q (upd x2_weight (x2_l2).toNatClampNeg (vhad (x2_l2).toNatClampNeg)) vkind vrhymes vpurse vhas vwishes vwishMany vsightLeft vsightRight vsightHow vsights vpad vpadMany vact vwho vwhich vwhom vacts vplace vopenMany vended vspoken vheaviest vheaviestWeight vhad vbadAct vbadWhy vbrings vbringsThen vkept visKept vkeptAt visWriting) H := hP
        have hD : va_D A (mdW K q (upd x2_weight (x2_l2).toNatClampNeg (vhad (x2_l2).toNatClampNeg)) vkind vrhymes vpurse vhas vwishes vwishMany vsightLeft vsightRight vsightHow vsights vpad vpadMany vact vwho vwhich vwhom vacts vplace vopenMany vended vspoken vheaviest vheaviestWeight vhad vbadAct vbadWhy vbrings vbringsThen vkept visKept vkeptAt visWriting) := hD
        refine lv_iinc (v := (x2_l2 + 1)) (lv' := [(2, .int (x2_l2 + 1)), (0, .ref (q 0)), (1, .int p0)]) hx hb dX5_back_20 hl (k := 0) rfl (by rfl) (by decide) rfl (fun ls hl => ?_)
        refine lv_goto (tgt := 2) hx hb dX5_back_23 (by decide) ?_
        obtain rfl := Option.some.inj hs2
        exact ih2 _ _ _ _ _ hw2 hP hD hS (lv_sub hl [0, 1, 2] rfl)
  exact lp2 5000 _ _ _ _ _ hr1 hP hD hS (lv_sub hl [0, 1, 2] rfl)
def s_X5_goDays_18 (vkind : Nat → Int32) (vact : Nat → Int32) (vwho : Nat → Int32) (vwhich : Nat → Int32) (vwhom : Nat → Int32) (vacts : Int32) (x : Int32 × Int32 × Int32 × Int32 × (Nat → Int32) × Int32 × Int32 × Int32 × Int32 × (Nat → Int32) × Int32 × (Nat → Int32)) : Option ((Int32 × Int32 × Int32 × Int32 × (Nat → Int32) × Int32 × Int32 × Int32 × Int32 × (Nat → Int32) × Int32 × (Nat → Int32)) ⊕ (Int32 × Int32 × Int32 × Int32 × (Nat → Int32) × Int32 × Int32 × Int32 × Int32 × (Nat → Int32) × Int32 × (Nat → Int32))) := if vacts ≤ x.1 then (some (.inr (x.1, x.2.1, x.2.2.1, x.2.2.2.1, x.2.2.2.2.1, x.2.2.2.2.2.1, x.2.2.2.2.2.2.1, x.2.2.2.2.2.2.2.1, x.2.2.2.2.2.2.2.2.1, x.2.2.2.2.2.2.2.2.2.1, x.2.2.2.2.2.2.2.2.2.2.1, x.2.2.2.2.2.2.2.2.2.2.2))) else (if 0 ≤ x.2.1 then (some (.inr (x.1, x.2.1, x.2.2.1, x.2.2.2.1, x.2.2.2.2.1, x.2.2.2.2.2.1, x.2.2.2.2.2.2.1, x.2.2.2.2.2.2.2.1, x.2.2.2.2.2.2.2.2.1, x.2.2.2.2.2.2.2.2.2.1, x.2.2.2.2.2.2.2.2.2.2.1, x.2.2.2.2.2.2.2.2.2.2.2))) else (chk x.1 60 (ob (f_X5_whyNot x.2.2.2.2.2.2.2.2.2.2.2 x.2.2.2.2.2.2.2.2.2.1 x.2.2.2.2.1 x.2.2.2.2.2.2.2.2.1 (vact (x.1).toNatClampNeg) (vwho (x.1).toNatClampNeg) (vwhich (x.1).toNatClampNeg) (vwhom (x.1).toNatClampNeg)) (fun o6 => if o6 ≤ 0 then (if o6 = 0 then (ob (f_X5_happen x.2.2.2.2.2.2.2.2.2.2.2 vkind x.2.2.2.2.2.2.2.2.2.1 x.2.2.2.2.1 x.2.2.2.2.2.2.2.2.1 x.2.2.2.2.2.2.2.1 x.2.2.2.1 x.2.2.2.2.2.2.2.2.2.2.1 x.2.2.2.2.2.1 x.2.2.2.2.2.2.1 (vact (x.1).toNatClampNeg) (vwho (x.1).toNatClampNeg) (vwhich (x.1).toNatClampNeg) (vwhom (x.1).toNatClampNeg)) (fun o10 => some (.inl ((x.1 + 1), (-6), (-6), o10.2.2.2.2.2.1, o10.2.2.1, o10.2.2.2.2.2.2.2.1, o10.2.2.2.2.2.2.2.2, o10.2.2.2.2.1, o10.2.2.2.1, o10.2.1, o10.2.2.2.2.2.2.1, o10.1)))) else (some (.inl ((x.1 + 1), (-6), (-6), x.2.2.2.1, x.2.2.2.2.1, x.2.2.2.2.2.1, x.2.2.2.2.2.2.1, x.2.2.2.2.2.2.2.1, x.2.2.2.2.2.2.2.2.1, x.2.2.2.2.2.2.2.2.2.1, x.2.2.2.2.2.2.2.2.2.2.1, x.2.2.2.2.2.2.2.2.2.2.2)))) else (if o6 = 0 then (ob (f_X5_happen x.2.2.2.2.2.2.2.2.2.2.2 vkind x.2.2.2.2.2.2.2.2.2.1 x.2.2.2.2.1 x.2.2.2.2.2.2.2.2.1 x.2.2.2.2.2.2.2.1 x.2.2.2.1 x.2.2.2.2.2.2.2.2.2.2.1 x.2.2.2.2.2.1 x.2.2.2.2.2.2.1 (vact (x.1).toNatClampNeg) (vwho (x.1).toNatClampNeg) (vwhich (x.1).toNatClampNeg) (vwhom (x.1).toNatClampNeg)) (fun o13 => some (.inl ((x.1 + 1), x.1, o6, o13.2.2.2.2.2.1, o13.2.2.1, o13.2.2.2.2.2.2.2.1, o13.2.2.2.2.2.2.2.2, o13.2.2.2.2.1, o13.2.2.2.1, o13.2.1, o13.2.2.2.2.2.2.1, o13.1)))) else (some (.inl ((x.1 + 1), x.1, o6, x.2.2.2.1, x.2.2.2.2.1, x.2.2.2.2.2.1, x.2.2.2.2.2.2.1, x.2.2.2.2.2.2.2.1, x.2.2.2.2.2.2.2.2.1, x.2.2.2.2.2.2.2.2.2.1, x.2.2.2.2.2.2.2.2.2.2.1, x.2.2.2.2.2.2.2.2.2.2.2))))))))
def f_X5_goDays (vweight : Nat → Int32) (vkind : Nat → Int32) (vpurse : Nat → Int32) (vhas : Nat → Int32) (vact : Nat → Int32) (vwho : Nat → Int32) (vwhich : Nat → Int32) (vwhom : Nat → Int32) (vacts : Int32) : Option ((Nat → Int32) × (Nat → Int32) × (Nat → Int32) × Int32 × Int32 × Int32 × Int32 × Int32 × Int32 × Int32 × Int32) := bd (f_X5_beginCount) (fun o1 => ob (wh (s_X5_goDays_18 vkind vact vwho vwhich vwhom vacts) 5000 (0, (-6), (-6), o1.2.2.1, vhas, o1.2.2.2.2.1, o1.2.2.2.2.2, o1.2.1, o1.1, vpurse, o1.2.2.2.1, vweight)) (fun r2 => some (r2.2.2.2.2.2.2.2.2.2.2.2, r2.2.2.2.2.2.2.2.2.2.1, r2.2.2.2.2.1, r2.2.2.2.2.2.2.2.2.1, r2.2.2.2.2.2.2.2.1, r2.2.2.2.1, r2.2.2.2.2.2.2.2.2.2.2.1, r2.2.2.2.2.2.1, r2.2.2.2.2.2.2.1, r2.2.1, r2.2.2.1)))
theorem inX5_goDays_X5 : ∀ w ∈ wsX50, w ∈ wsX5_goDays := fun w h => List.mem_cons_of_mem _ (List.mem_append_right _ h)
theorem yd_X5_goDays : yX5_goDays.cls ≠ "java/lang/invoke/MethodHandle" ∧ yX5_goDays.cls ≠ "java/lang/invoke/VarHandle" ∧ (parseMethodDescriptor yX5_goDays.desc).map (fun d => d.parameters.length) = some 0 := by decide +kernel
abbrev rmX5_goDays : Room := { frames := 3, cells := 0, slots := 0, locals := 66 }
set_option maxHeartbeats 4000000 in
set_option maxRecDepth 100000 in
theorem k_X5_goDays (l : Launch) (D : va_G) (K : Nat → ClassId) (q : Nat → Nat) (vweight : Nat → Int32) (vkind : Nat → Int32) (vrhymes : Nat → Int32) (vpurse : Nat → Int32) (vhas : Nat → Int32) (vwishes : Nat → Int32) (vwishMany : Int32) (vsightLeft : Nat → Int32) (vsightRight : Nat → Int32) (vsightHow : Nat → Int32) (vsights : Int32) (vpad : Nat → Int32) (vpadMany : Int32) (vact : Nat → Int32) (vwho : Nat → Int32) (vwhich : Nat → Int32) (vwhom : Nat → Int32) (vacts : Int32) (vplace : Int32) (vopenMany : Int32) (vended : Int32) (vspoken : Int32) (vheaviest : Int32) (vheaviestWeight : Int32) (vhad : Nat → Int32) (vbadAct : Int32) (vbadWhy : Int32) (vbrings : Nat → Int64) (vbringsThen : Nat → Int64) (vkept : Nat → Int32) (visKept : Nat → Int32) (vkeptAt : Int32) (visWriting : Int32) (out : (Nat → Int32) × (Nat → Int32) × (Nat → Int32) × Int32 × Int32 × Int32 × Int32 × Int32 × Int32 × Int32 × Int32) (hf : f_X5_goDays vweight vkind vpurse vhas vact vwho vwhich vwhom vacts = some out) : kV l D K yX5_goDays wsX5_goDays rmX5_goDays [.ref (q 0)] (mdW K q vweight vkind vrhymes vpurse vhas vwishes vwishMany vsightLeft vsightRight vsightHow vsights vpad vpadMany vact vwho vwhich vwhom vacts vplace vopenMany vended vspoken vheaviest vheaviestWeight vhad vbadAct vbadWhy vbrings vbringsThen vkept visKept vkeptAt visWriting) (mdW K q out.1 vkind vrhymes out.2.1 out.2.2.1 vwishes vwishMany vsightLeft vsightRight vsightHow vsights vpad vpadMany vact vwho vwhich vwhom vacts out.2.2.2.1 out.2.2.2.2.1 out.2.2.2.2.2.1 out.2.2.2.2.2.2.1 out.2.2.2.2.2.2.2.1 out.2.2.2.2.2.2.2.2.1 vhad out.2.2.2.2.2.2.2.2.2.1 out.2.2.2.2.2.2.2.2.2.2 vbrings vbringsThen vkept visKept vkeptAt visWriting) := by
  refine kV.of (cc := cX5_goDays) (maxL := 3) (by decide) rfl (Nat.le_of_ble_eq_true rfl) ?_
  intro p e s m args below meth c A H0 Q ls hx hb hml hown hts hK hN hA hP hD hS hl hret
  have hown : s.vm.findClass RX5 = some m.cls := hown
  have hl : lv_has ls 3 [(0, .ref (q 0))] := hl
  generalize hH : H0 = H at hP ⊢
  have hS : va_S A H0 H [] := by rw [← hH]; exact hS
  clear hH
  unfold f_X5_goDays at hf
  refine lv_aload_n hx hb dX5_goDays_0 rfl (lv_at hl 0 rfl) ?_
  obtain ⟨o1, ho1, hf⟩ := bd_el hf
  refine kcw_v (D := D) (va_runV (As := []) (rest := []) ⟨hx, hb, hml, hown, hts⟩ ((k_X5_beginCount l D K q vweight vkind vrhymes vpurse vhas vwishes vwishMany vsightLeft vsightRight vsightHow vsights vpad vpadMany vact vwho vwhich vwhom vacts vplace vopenMany vended vspoken vheaviest vheaviestWeight vhad vbadAct vbadWhy vbrings vbringsThen vkept visKept vkeptAt visWriting o1 ho1) H.size) (cwV 0 hts gX5_goDays_X5_beginCount rfl rfl rfl ⟨rfl, yd_X5_beginCount⟩ ⟨Nat.le_of_ble_eq_true rfl, Nat.le_of_ble_eq_true rfl⟩) (kPreV (ci := 5) (q0 := 0) hP rfl rfl hP hD hK hN) rfl rfl hl.1 rfl (lv_room (Nat.le_of_ble_eq_true rfl)) dX5_goDays_1 ⟨Nat.le_of_ble_eq_true rfl, Nat.le_of_ble_eq_true rfl⟩) hD hS hA (fun H locs hP hD hS => ?_)
  have hP : va_P D vwCl (mdW K q vweight vkind vrhymes vpurse vhas vwishes vwishMany vsightLeft vsightRight vsightHow vsights vpad vpadMany vact vwho vwhich vwhom vacts o1.1 o1.2.1 o1.2.2.1 o1.2.2.2.1 o1.2.2.2.2.1 o1.2.2.2.2.2 vhad vbadAct vbadWhy vbrings vbringsThen vkept visKept vkeptAt visWriting) H := hP
  have hD : va_D A (mdW K q vweight vkind vrhymes vpurse vhas vwishes vwishMany vsightLeft vsightRight vsightHow vsights vpad vpadMany vact vwho vwhich vwhom vacts o1.1 o1.2.1 o1.2.2.1 o1.2.2.2.1 o1.2.2.2.2.1 o1.2.2.2.2.2 vhad vbadAct vbadWhy vbrings vbringsThen vkept visKept vkeptAt visWriting) := hD
  refine lv_aload_n hx hb dX5_goDays_4 rfl (lv_at hl 0 rfl) ?_
  refine lv_bipush (v := (-6)) hx hb dX5_goDays_5 (by decide) ?_
  refine va_put (D := D) (ci := 5) (v := .int (-6)) (ty := .int) (C := RX5) (T := TX5) (N := 33) hx hb hts inX5_goDays_X5 tyX5 tyX5_ok nmX5 hown hK hP hD hS 0 rfl rfl 25 (by decide) (hts (.fieldLink RX5 167 "WordScalesModel" "badAct" "I") (List.mem_of_getElem? (i := 1) rfl)) (fun _ h9 => h9) rfl (tyX5_ok 25 (by decide)) rfl rfl (Nat.le_of_ble_eq_true rfl) dX5_goDays_7 (fun H locs hP hD hS => ?_)
  have hP : va_P D vwCl (mdW K q vweight vkind vrhymes vpurse vhas vwishes vwishMany vsightLeft vsightRight vsightHow vsights vpad vpadMany vact vwho vwhich vwhom vacts o1.1 o1.2.1 o1.2.2.1 o1.2.2.2.1 o1.2.2.2.2.1 o1.2.2.2.2.2 vhad (-6) vbadWhy vbrings vbringsThen vkept visKept vkeptAt visWriting) H := hP
  have hD : va_D A (mdW K q vweight vkind vrhymes vpurse vhas vwishes vwishMany vsightLeft vsightRight vsightHow vsights vpad vpadMany vact vwho vwhich vwhom vacts o1.1 o1.2.1 o1.2.2.1 o1.2.2.2.1 o1.2.2.2.2.1 o1.2.2.2.2.2 vhad (-6) vbadWhy vbrings vbringsThen vkept visKept vkeptAt visWriting) := hD
  refine lv_aload_n hx hb dX5_goDays_10 rfl (lv_at hl 0 rfl) ?_
  refine lv_bipush (v := (-6)) hx hb dX5_goDays_11 (by decide) ?_
  refine va_put (D := D) (ci := 5) (v := .int (-6)) (ty := .int) (C := RX5) (T := TX5) (N := 33) hx hb hts inX5_goDays_X5 tyX5 tyX5_ok nmX5 hown hK hP hD hS 0 rfl rfl 26 (by decide) (hts (.fieldLink RX5 170 "WordScalesModel" "badWhy" "I") (List.mem_of_getElem? (i := 2) rfl)) (fun _ h9 => h9) rfl (tyX5_ok 26 (by decide)) rfl rfl (Nat.le_of_ble_eq_true rfl) dX5_goDays_13 (fun H locs hP hD hS => ?_)
  have hP : va_P D vwCl (mdW K q vweight vkind vrhymes vpurse vhas vwishes vwishMany vsightLeft vsightRight vsightHow vsights vpad vpadMany vact vwho vwhich vwhom vacts o1.1 o1.2.1 o1.2.2.1 o1.2.2.2.1 o1.2.2.2.2.1 o1.2.2.2.2.2 vhad (-6) (-6) vbrings vbringsThen vkept visKept vkeptAt visWriting) H := hP
  have hD : va_D A (mdW K q vweight vkind vrhymes vpurse vhas vwishes vwishMany vsightLeft vsightRight vsightHow vsights vpad vpadMany vact vwho vwhich vwhom vacts o1.1 o1.2.1 o1.2.2.1 o1.2.2.2.1 o1.2.2.2.2.1 o1.2.2.2.2.2 vhad (-6) (-6) vbrings vbringsThen vkept visKept vkeptAt visWriting) := hD
  refine lv_iconst (v := 0) hx hb dX5_goDays_16 (by decide) ?_
  refine lv_istore_n (lv' := [(1, .int 0), (0, .ref (q 0))]) hx hb dX5_goDays_17 rfl hl (by decide) rfl (fun ls hl => ?_)
  obtain ⟨r2, hr2, hf⟩ := ob_el hf
  have post18 : ∀ (e18_l1 : Int32) (e18_badAct : Int32) (e18_badWhy : Int32) (e18_ended : Int32) (e18_has : Nat → Int32) (e18_heaviest : Int32) (e18_heaviestWeight : Int32) (e18_openMany : Int32) (e18_place : Int32) (e18_purse : Nat → Int32) (e18_spoken : Int32) (e18_weight : Nat → Int32) (H : Heap) (locs : List Loc) (ls : Array Slot), (some (e18_weight, e18_purse, e18_has, e18_place, e18_openMany, e18_ended, e18_spoken, e18_heaviest, e18_heaviestWeight, e18_badAct, e18_badWhy)) = some out → va_P D vwCl (mdW K q e18_weight vkind vrhymes e18_purse e18_has vwishes vwishMany vsightLeft vsightRight vsightHow vsights vpad vpadMany vact vwho vwhich vwhom vacts e18_place e18_openMany e18_ended e18_spoken e18_heaviest e18_heaviestWeight vhad e18_badAct e18_badWhy vbrings vbringsThen vkept visKept vkeptAt visWriting) H → va_D A (mdW K q e18_weight vkind vrhymes e18_purse e18_has vwishes vwishMany vsightLeft vsightRight vsightHow vsights vpad vpadMany vact vwho vwhich vwhom vacts e18_place e18_openMany e18_ended e18_spoken e18_heaviest e18_heaviestWeight vhad e18_badAct e18_badWhy vbrings vbringsThen vkept visKept vkeptAt visWriting) → va_S A H0 H locs → lv_has ls 3 [(1, .int e18_l1), (0, .ref (q 0))] → W p l e rmX5_goDays s m args below meth c H locs 0 0 Q (F0 m 128 ls []) := by
    intro e18_l1 e18_badAct e18_badWhy e18_ended e18_has e18_heaviest e18_heaviestWeight e18_openMany e18_place e18_purse e18_spoken e18_weight H locs ls hf hP hD hS hl
    obtain rfl := Option.some.inj hf
    exact hret rfl hP hD hS dX5_goDays_128
  have lp18 : ∀ (fu : Nat) (x18_l1 : Int32) (x18_badAct : Int32) (x18_badWhy : Int32) (x18_ended : Int32) (x18_has : Nat → Int32) (x18_heaviest : Int32) (x18_heaviestWeight : Int32) (x18_openMany : Int32) (x18_place : Int32) (x18_purse : Nat → Int32) (x18_spoken : Int32) (x18_weight : Nat → Int32) (H : Heap) (locs : List Loc) (ls : Array Slot), wh (s_X5_goDays_18 vkind vact vwho vwhich vwhom vacts) fu (x18_l1, x18_badAct, x18_badWhy, x18_ended, x18_has, x18_heaviest, x18_heaviestWeight, x18_openMany, x18_place, x18_purse, x18_spoken, x18_weight) = some r2 → va_P D vwCl (mdW K q x18_weight vkind vrhymes x18_purse x18_has vwishes vwishMany vsightLeft vsightRight vsightHow vsights vpad vpadMany vact vwho vwhich vwhom vacts x18_place x18_openMany x18_ended x18_spoken x18_heaviest x18_heaviestWeight vhad x18_badAct x18_badWhy vbrings vbringsThen vkept visKept vkeptAt visWriting) H → va_D A (mdW K q x18_weight vkind vrhymes x18_purse x18_has vwishes vwishMany vsightLeft vsightRight vsightHow vsights vpad vpadMany vact vwho vwhich vwhom vacts x18_place x18_openMany x18_ended x18_spoken x18_heaviest x18_heaviestWeight vhad x18_badAct x18_badWhy vbrings vbringsThen vkept visKept vkeptAt visWriting) → va_S A H0 H locs → lv_has ls 3 [(1, .int x18_l1), (0, .ref (q 0))] → W p l e rmX5_goDays s m args below meth c H locs 0 0 Q (F0 m 18 ls []) := by
    intro fu
    induction fu with
    | zero => intro x18_l1 x18_badAct x18_badWhy x18_ended x18_has x18_heaviest x18_heaviestWeight x18_openMany x18_place x18_purse x18_spoken x18_weight H locs ls hw18; cases hw18
    | succ fu ih18 =>
      intro x18_l1 x18_badAct x18_badWhy x18_ended x18_has x18_heaviest x18_heaviestWeight x18_openMany x18_place x18_purse x18_spoken x18_weight H locs ls hw18 hP hD hS hl
      obtain ⟨o18_, hs18, hw18⟩ := wh_el hw18
      unfold s_X5_goDays_18 at hs18
      dsimp only at hs18
      refine lv_iload_n hx hb dX5_goDays_18 rfl (lv_at hl 0 rfl) ?_
      refine lv_aload_n hx hb dX5_goDays_19 rfl (lv_at hl 1 rfl) ?_
      refine va_get (D := D) (ci := 5) (v := .int vacts) (C := RX5) (T := TX5) (N := 33) hx hb hts inX5_goDays_X5 hown hK hP 0 rfl rfl 17 (by decide) (hts (.fieldLink RX5 110 "WordScalesModel" "acts" "I") (List.mem_of_getElem? (i := 3) rfl)) (fun _ h9 => h9) rfl dX5_goDays_20 ?_
      refine lv_icmp_ge (tgt := 128) hx hb dX5_goDays_23 (by decide) (fun c3 => ?_) (fun c3 => ?_)
      · rw [if_pos c3] at hs18
        obtain rfl := Option.some.inj hs18
        have e9 := Option.some.inj hw18
        rw [← e9] at hf
        exact post18 _ _ _ _ _ _ _ _ _ _ _ _ _ _ _ hf hP hD hS (lv_sub hl [0, 1] rfl)
      · rw [if_neg c3] at hs18
        refine lv_aload_n hx hb dX5_goDays_26 rfl (lv_at hl 1 rfl) ?_
        refine va_get (D := D) (ci := 5) (v := .int x18_badAct) (C := RX5) (T := TX5) (N := 33) hx hb hts inX5_goDays_X5 hown hK hP 0 rfl rfl 25 (by decide) (hts (.fieldLink RX5 167 "WordScalesModel" "badAct" "I") (List.mem_of_getElem? (i := 1) rfl)) (fun _ h9 => h9) rfl dX5_goDays_27 ?_
        refine lv_if_ge (tgt := 128) hx hb dX5_goDays_30 (by decide) (fun c4 => ?_) (fun c4 => ?_)
        · rw [if_pos c4] at hs18
          obtain rfl := Option.some.inj hs18
          have e9 := Option.some.inj hw18
          rw [← e9] at hf
          exact post18 _ _ _ _ _ _ _ _ _ _ _ _ _ _ _ hf hP hD hS (lv_sub hl [0, 1] rfl)
        · rw [if_neg c4] at hs18
          refine lv_aload_n hx hb dX5_goDays_33 rfl (lv_at hl 1 rfl) ?_
          refine lv_aload_n hx hb dX5_goDays_34 rfl (lv_at hl 1 rfl) ?_
          refine va_get (D := D) (ci := 5) (v := .ref (q 11)) (C := RX5) (T := TX5) (N := 33) hx hb hts inX5_goDays_X5 hown hK hP 0 rfl rfl 13 (by decide) (hts (.fieldLink RX5 40 "WordScalesModel" "act" "[I") (List.mem_of_getElem? (i := 4) rfl)) (fun _ h9 => h9) rfl dX5_goDays_35 ?_
          refine lv_iload_n hx hb dX5_goDays_38 rfl (lv_at hl 0 rfl) ?_
          obtain ⟨v5, hs18⟩ := chk_el hs18
          refine va_iald (D := D) (f := vact) hx hb hK hP 11 0 rfl rfl v5 dX5_goDays_39 ?_
          refine lv_aload_n hx hb dX5_goDays_40 rfl (lv_at hl 1 rfl) ?_
          refine va_get (D := D) (ci := 5) (v := .ref (q 12)) (C := RX5) (T := TX5) (N := 33) hx hb hts inX5_goDays_X5 hown hK hP 0 rfl rfl 14 (by decide) (hts (.fieldLink RX5 43 "WordScalesModel" "who" "[I") (List.mem_of_getElem? (i := 5) rfl)) (fun _ h9 => h9) rfl dX5_goDays_41 ?_
          refine lv_iload_n hx hb dX5_goDays_44 rfl (lv_at hl 0 rfl) ?_
          refine va_iald (D := D) (f := vwho) hx hb hK hP 12 0 rfl rfl v5 dX5_goDays_45 ?_
          refine lv_aload_n hx hb dX5_goDays_46 rfl (lv_at hl 1 rfl) ?_
          refine va_get (D := D) (ci := 5) (v := .ref (q 13)) (C := RX5) (T := TX5) (N := 33) hx hb hts inX5_goDays_X5 hown hK hP 0 rfl rfl 15 (by decide) (hts (.fieldLink RX5 46 "WordScalesModel" "which" "[I") (List.mem_of_getElem? (i := 6) rfl)) (fun _ h9 => h9) rfl dX5_goDays_47 ?_
          refine lv_iload_n hx hb dX5_goDays_50 rfl (lv_at hl 0 rfl) ?_
          refine va_iald (D := D) (f := vwhich) hx hb hK hP 13 0 rfl rfl v5 dX5_goDays_51 ?_
          refine lv_aload_n hx hb dX5_goDays_52 rfl (lv_at hl 1 rfl) ?_
          refine va_get (D := D) (ci := 5) (v := .ref (q 14)) (C := RX5) (T := TX5) (N := 33) hx hb hts inX5_goDays_X5 hown hK hP 0 rfl rfl 16 (by decide) (hts (.fieldLink RX5 49 "WordScalesModel" "whom" "[I") (List.mem_of_getElem? (i := 7) rfl)) (fun _ h9 => h9) rfl dX5_goDays_53 ?_
          refine lv_iload_n hx hb dX5_goDays_56 rfl (lv_at hl 0 rfl) ?_
          refine va_iald (D := D) (f := vwhom) hx hb hK hP 14 0 rfl rfl v5 dX5_goDays_57 ?_
          obtain ⟨o6, ho6, hs18⟩ := ob_el hs18
          refine kcw_i (D := D) (va_runV (As := [.int (vact (x18_l1).toNatClampNeg), .int (vwho (x18_l1).toNatClampNeg), .int (vwhich (x18_l1).toNatClampNeg), .int (vwhom (x18_l1).toNatClampNeg)]) (rest := []) ⟨hx, hb, hml, hown, hts⟩ ((k_X5_whyNot l D K q x18_weight vkind vrhymes x18_purse x18_has vwishes vwishMany vsightLeft vsightRight vsightHow vsights vpad vpadMany vact vwho vwhich vwhom vacts x18_place x18_openMany x18_ended x18_spoken x18_heaviest x18_heaviestWeight vhad x18_badAct x18_badWhy vbrings vbringsThen vkept visKept vkeptAt visWriting (vact (x18_l1).toNatClampNeg) (vwho (x18_l1).toNatClampNeg) (vwhich (x18_l1).toNatClampNeg) (vwhom (x18_l1).toNatClampNeg) o6 ho6) H.size) (cwV 4 hts gX5_goDays_X5_whyNot rfl rfl rfl ⟨rfl, yd_X5_whyNot⟩ ⟨Nat.le_of_ble_eq_true rfl, Nat.le_of_ble_eq_true rfl⟩) (kPreV (ci := 5) (q0 := 0) hP rfl rfl hP hD hK hN) rfl rfl hl.1 rfl (lv_room (Nat.le_of_ble_eq_true rfl)) dX5_goDays_58 ⟨Nat.le_of_ble_eq_true rfl, Nat.le_of_ble_eq_true rfl⟩) hD hS hA (fun hzo6 H locs hP hD hS => ?_)
          have hP : va_P D vwCl (mdW K q x18_weight vkind vrhymes x18_purse x18_has vwishes vwishMany vsightLeft vsightRight vsightHow vsights vpad vpadMany vact vwho vwhich vwhom vacts x18_place x18_openMany x18_ended x18_spoken x18_heaviest x18_heaviestWeight vhad x18_badAct x18_badWhy vbrings vbringsThen vkept visKept vkeptAt visWriting) H := hP
          have hD : va_D A (mdW K q x18_weight vkind vrhymes x18_purse x18_has vwishes vwishMany vsightLeft vsightRight vsightHow vsights vpad vpadMany vact vwho vwhich vwhom vacts x18_place x18_openMany x18_ended x18_spoken x18_heaviest x18_heaviestWeight vhad x18_badAct x18_badWhy vbrings vbringsThen vkept visKept vkeptAt visWriting) := hD
          refine lv_istore_n (lv' := [(2, .int o6), (1, .int x18_l1), (0, .ref (q 0))]) hx hb dX5_goDays_61 rfl hl (by decide) rfl (fun ls hl => ?_)
          refine lv_aload_n hx hb dX5_goDays_62 rfl (lv_at hl 2 rfl) ?_
          refine lv_iload_n hx hb dX5_goDays_63 rfl (lv_at hl 0 rfl) ?_
          refine lv_if_le (tgt := 71) hx hb dX5_goDays_64 (by decide) (fun c7 => ?_) (fun c7 => ?_)
          · rw [if_pos c7] at hs18
            refine lv_bipush (v := (-6)) hx hb dX5_goDays_71 (by decide) ?_
            refine va_put (D := D) (ci := 5) (v := .int (-6)) (ty := .int) (C := RX5) (T := TX5) (N := 33) hx hb hts inX5_goDays_X5 tyX5 tyX5_ok nmX5 hown hK hP hD hS 0 rfl rfl 25 (by decide) (hts (.fieldLink RX5 167 "WordScalesModel" "badAct" "I") (List.mem_of_getElem? (i := 1) rfl)) (fun _ h9 => h9) rfl (tyX5_ok 25 (by decide)) rfl rfl (Nat.le_of_ble_eq_true rfl) dX5_goDays_73 (fun H locs hP hD hS => ?_)
            have hP : va_P D vwCl (mdW K q x18_weight vkind vrhymes x18_purse x18_has vwishes vwishMany vsightLeft vsightRight vsightHow vsights vpad vpadMany vact vwho vwhich vwhom vacts x18_place x18_openMany x18_ended x18_spoken x18_heaviest x18_heaviestWeight vhad (-6) x18_badWhy vbrings vbringsThen vkept visKept vkeptAt visWriting) H := hP
            have hD : va_D A (mdW K q x18_weight vkind vrhymes x18_purse x18_has vwishes vwishMany vsightLeft vsightRight vsightHow vsights vpad vpadMany vact vwho vwhich vwhom vacts x18_place x18_openMany x18_ended x18_spoken x18_heaviest x18_heaviestWeight vhad (-6) x18_badWhy vbrings vbringsThen vkept visKept vkeptAt visWriting) := hD
            refine lv_aload_n hx hb dX5_goDays_76 rfl (lv_at hl 2 rfl) ?_
            refine lv_iload_n hx hb dX5_goDays_77 rfl (lv_at hl 0 rfl) ?_
            refine lv_if_le (tgt := 85) hx hb dX5_goDays_78 (by decide) (fun c8 => ?_) (fun c8 => ?_)
            · skip
              refine lv_bipush (v := (-6)) hx hb dX5_goDays_85 (by decide) ?_
              refine va_put (D := D) (ci := 5) (v := .int (-6)) (ty := .int) (C := RX5) (T := TX5) (N := 33) hx hb hts inX5_goDays_X5 tyX5 tyX5_ok nmX5 hown hK hP hD hS 0 rfl rfl 26 (by decide) (hts (.fieldLink RX5 170 "WordScalesModel" "badWhy" "I") (List.mem_of_getElem? (i := 2) rfl)) (fun _ h9 => h9) rfl (tyX5_ok 26 (by decide)) rfl rfl (Nat.le_of_ble_eq_true rfl) dX5_goDays_87 (fun H locs hP hD hS => ?_)
              have hP : va_P D vwCl (mdW K q x18_weight vkind vrhymes x18_purse x18_has vwishes vwishMany vsightLeft vsightRight vsightHow vsights vpad vpadMany vact vwho vwhich vwhom vacts x18_place x18_openMany x18_ended x18_spoken x18_heaviest x18_heaviestWeight vhad (-6) (-6) vbrings vbringsThen vkept visKept vkeptAt visWriting) H := hP
              have hD : va_D A (mdW K q x18_weight vkind vrhymes x18_purse x18_has vwishes vwishMany vsightLeft vsightRight vsightHow vsights vpad vpadMany vact vwho vwhich vwhom vacts x18_place x18_openMany x18_ended x18_spoken x18_heaviest x18_heaviestWeight vhad (-6) (-6) vbrings vbringsThen vkept visKept vkeptAt visWriting) := hD
              refine lv_iload_n hx hb dX5_goDays_90 rfl (lv_at hl 0 rfl) ?_
              refine lv_if_ne (tgt := 122) hx hb dX5_goDays_91 (by decide) (fun c9 => ?_) (fun c9 => ?_)
              · rw [if_neg c9] at hs18
                refine lv_iinc (v := (x18_l1 + 1)) (lv' := [(1, .int (x18_l1 + 1)), (2, .int o6), (0, .ref (q 0))]) hx hb dX5_goDays_122 hl (k := 1) rfl (by rfl) (by decide) rfl (fun ls hl => ?_)
                refine lv_goto (tgt := 18) hx hb dX5_goDays_125 (by decide) ?_
                obtain rfl := Option.some.inj hs18
                exact ih18 _ _ _ _ _ _ _ _ _ _ _ _ _ _ _ hw18 hP hD hS (lv_sub hl [0, 2] rfl)
              · rw [if_pos c9] at hs18
                refine lv_aload_n hx hb dX5_goDays_94 rfl (lv_at hl 2 rfl) ?_
                refine lv_aload_n hx hb dX5_goDays_95 rfl (lv_at hl 2 rfl) ?_
                refine va_get (D := D) (ci := 5) (v := .ref (q 11)) (C := RX5) (T := TX5) (N := 33) hx hb hts inX5_goDays_X5 hown hK hP 0 rfl rfl 13 (by decide) (hts (.fieldLink RX5 40 "WordScalesModel" "act" "[I") (List.mem_of_getElem? (i := 4) rfl)) (fun _ h9 => h9) rfl dX5_goDays_96 ?_
                refine lv_iload_n hx hb dX5_goDays_99 rfl (lv_at hl 1 rfl) ?_
                refine va_iald (D := D) (f := vact) hx hb hK hP 11 0 rfl rfl v5 dX5_goDays_100 ?_
                refine lv_aload_n hx hb dX5_goDays_101 rfl (lv_at hl 2 rfl) ?_
                refine va_get (D := D) (ci := 5) (v := .ref (q 12)) (C := RX5) (T := TX5) (N := 33) hx hb hts inX5_goDays_X5 hown hK hP 0 rfl rfl 14 (by decide) (hts (.fieldLink RX5 43 "WordScalesModel" "who" "[I") (List.mem_of_getElem? (i := 5) rfl)) (fun _ h9 => h9) rfl dX5_goDays_102 ?_
                refine lv_iload_n hx hb dX5_goDays_105 rfl (lv_at hl 1 rfl) ?_
                refine va_iald (D := D) (f := vwho) hx hb hK hP 12 0 rfl rfl v5 dX5_goDays_106 ?_
                refine lv_aload_n hx hb dX5_goDays_107 rfl (lv_at hl 2 rfl) ?_
                refine va_get (D := D) (ci := 5) (v := .ref (q 13)) (C := RX5) (T := TX5) (N := 33) hx hb hts inX5_goDays_X5 hown hK hP 0 rfl rfl 15 (by decide) (hts (.fieldLink RX5 46 "WordScalesModel" "which" "[I") (List.mem_of_getElem? (i := 6) rfl)) (fun _ h9 => h9) rfl dX5_goDays_108 ?_
                refine lv_iload_n hx hb dX5_goDays_111 rfl (lv_at hl 1 rfl) ?_
                refine va_iald (D := D) (f := vwhich) hx hb hK hP 13 0 rfl rfl v5 dX5_goDays_112 ?_
                refine lv_aload_n hx hb dX5_goDays_113 rfl (lv_at hl 2 rfl) ?_
                refine va_get (D := D) (ci := 5) (v := .ref (q 14)) (C := RX5) (T := TX5) (N := 33) hx hb hts inX5_goDays_X5 hown hK hP 0 rfl rfl 16 (by decide) (hts (.fieldLink RX5 49 "WordScalesModel" "whom" "[I") (List.mem_of_getElem? (i := 7) rfl)) (fun _ h9 => h9) rfl dX5_goDays_114 ?_
                refine lv_iload_n hx hb dX5_goDays_117 rfl (lv_at hl 1 rfl) ?_
                refine va_iald (D := D) (f := vwhom) hx hb hK hP 14 0 rfl rfl v5 dX5_goDays_118 ?_
                obtain ⟨o10, ho10, hs18⟩ := ob_el hs18
                refine kcw_v (D := D) (va_runV (As := [.int (vact (x18_l1).toNatClampNeg), .int (vwho (x18_l1).toNatClampNeg), .int (vwhich (x18_l1).toNatClampNeg), .int (vwhom (x18_l1).toNatClampNeg)]) (rest := []) ⟨hx, hb, hml, hown, hts⟩ ((k_X5_happen l D K q x18_weight vkind vrhymes x18_purse x18_has vwishes vwishMany vsightLeft vsightRight vsightHow vsights vpad vpadMany vact vwho vwhich vwhom vacts x18_place x18_openMany x18_ended x18_spoken x18_heaviest x18_heaviestWeight vhad (-6) (-6) vbrings vbringsThen vkept visKept vkeptAt visWriting (vact (x18_l1).toNatClampNeg) (vwho (x18_l1).toNatClampNeg) (vwhich (x18_l1).toNatClampNeg) (vwhom (x18_l1).toNatClampNeg) o10 ho10) H.size) (cwV 4 hts gX5_goDays_X5_happen rfl rfl rfl ⟨rfl, yd_X5_happen⟩ ⟨Nat.le_of_ble_eq_true rfl, Nat.le_of_ble_eq_true rfl⟩) (kPreV (ci := 5) (q0 := 0) hP rfl rfl hP hD hK hN) rfl rfl hl.1 rfl (lv_room (Nat.le_of_ble_eq_true rfl)) dX5_goDays_119 ⟨Nat.le_of_ble_eq_true rfl, Nat.le_of_ble_eq_true rfl⟩) hD hS hA (fun H locs hP hD hS => ?_)
                have hP : va_P D vwCl (mdW K q o10.1 vkind vrhymes o10.2.1 o10.2.2.1 vwishes vwishMany vsightLeft vsightRight vsightHow vsights vpad vpadMany vact vwho vwhich vwhom vacts o10.2.2.2.1 o10.2.2.2.2.1 o10.2.2.2.2.2.1 o10.2.2.2.2.2.2.1 o10.2.2.2.2.2.2.2.1 o10.2.2.2.2.2.2.2.2 vhad (-6) (-6) vbrings vbringsThen vkept visKept vkeptAt visWriting) H := hP
                have hD : va_D A (mdW K q o10.1 vkind vrhymes o10.2.1 o10.2.2.1 vwishes vwishMany vsightLeft vsightRight vsightHow vsights vpad vpadMany vact vwho vwhich vwhom vacts o10.2.2.2.1 o10.2.2.2.2.1 o10.2.2.2.2.2.1 o10.2.2.2.2.2.2.1 o10.2.2.2.2.2.2.2.1 o10.2.2.2.2.2.2.2.2 vhad (-6) (-6) vbrings vbringsThen vkept visKept vkeptAt visWriting) := hD
                refine lv_iinc (v := (x18_l1 + 1)) (lv' := [(1, .int (x18_l1 + 1)), (2, .int o6), (0, .ref (q 0))]) hx hb dX5_goDays_122 hl (k := 1) rfl (by rfl) (by decide) rfl (fun ls hl => ?_)
                refine lv_goto (tgt := 18) hx hb dX5_goDays_125 (by decide) ?_
                obtain rfl := Option.some.inj hs18
                exact ih18 _ _ _ _ _ _ _ _ _ _ _ _ _ _ _ hw18 hP hD hS (lv_sub hl [0, 2] rfl)
            · exact absurd c7 c8
          · rw [if_neg c7] at hs18
            refine lv_iload_n hx hb dX5_goDays_67 rfl (lv_at hl 1 rfl) ?_
            refine lv_goto (tgt := 73) hx hb dX5_goDays_68 (by decide) ?_
            refine va_put (D := D) (ci := 5) (v := .int x18_l1) (ty := .int) (C := RX5) (T := TX5) (N := 33) hx hb hts inX5_goDays_X5 tyX5 tyX5_ok nmX5 hown hK hP hD hS 0 rfl rfl 25 (by decide) (hts (.fieldLink RX5 167 "WordScalesModel" "badAct" "I") (List.mem_of_getElem? (i := 1) rfl)) (fun _ h9 => h9) rfl (tyX5_ok 25 (by decide)) rfl rfl (Nat.le_of_ble_eq_true rfl) dX5_goDays_73 (fun H locs hP hD hS => ?_)
            have hP : va_P D vwCl (mdW K q x18_weight vkind vrhymes x18_purse x18_has vwishes vwishMany vsightLeft vsightRight vsightHow vsights vpad vpadMany vact vwho vwhich vwhom vacts x18_place x18_openMany x18_ended x18_spoken x18_heaviest x18_heaviestWeight vhad x18_l1 x18_badWhy vbrings vbringsThen vkept visKept vkeptAt visWriting) H := hP
            have hD : va_D A (mdW K q x18_weight vkind vrhymes x18_purse x18_has vwishes vwishMany vsightLeft vsightRight vsightHow vsights vpad vpadMany vact vwho vwhich vwhom vacts x18_place x18_openMany x18_ended x18_spoken x18_heaviest x18_heaviestWeight vhad x18_l1 x18_badWhy vbrings vbringsThen vkept visKept vkeptAt visWriting) := hD
            refine lv_aload_n hx hb dX5_goDays_76 rfl (lv_at hl 2 rfl) ?_
            refine lv_iload_n hx hb dX5_goDays_77 rfl (lv_at hl 0 rfl) ?_
            refine lv_if_le (tgt := 85) hx hb dX5_goDays_78 (by decide) (fun c11 => ?_) (fun c11 => ?_)
            · exact absurd c11 c7
            · skip
              refine lv_iload_n hx hb dX5_goDays_81 rfl (lv_at hl 0 rfl) ?_
              refine lv_goto (tgt := 87) hx hb dX5_goDays_82 (by decide) ?_
              refine va_put (D := D) (ci := 5) (v := .int o6) (ty := .int) (C := RX5) (T := TX5) (N := 33) hx hb hts inX5_goDays_X5 tyX5 tyX5_ok nmX5 hown hK hP hD hS 0 rfl rfl 26 (by decide) (hts (.fieldLink RX5 170 "WordScalesModel" "badWhy" "I") (List.mem_of_getElem? (i := 2) rfl)) (fun _ h9 => h9) rfl (tyX5_ok 26 (by decide)) rfl rfl (Nat.le_of_ble_eq_true rfl) dX5_goDays_87 (fun H locs hP hD hS => ?_)
              have hP : va_P D vwCl (mdW K q x18_weight vkind vrhymes x18_purse x18_has vwishes vwishMany vsightLeft vsightRight vsightHow vsights vpad vpadMany vact vwho vwhich vwhom vacts x18_place x18_openMany x18_ended x18_spoken x18_heaviest x18_heaviestWeight vhad x18_l1 o6 vbrings vbringsThen vkept visKept vkeptAt visWriting) H := hP
              have hD : va_D A (mdW K q x18_weight vkind vrhymes x18_purse x18_has vwishes vwishMany vsightLeft vsightRight vsightHow vsights vpad vpadMany vact vwho vwhich vwhom vacts x18_place x18_openMany x18_ended x18_spoken x18_heaviest x18_heaviestWeight vhad x18_l1 o6 vbrings vbringsThen vkept visKept vkeptAt visWriting) := hD
              refine lv_iload_n hx hb dX5_goDays_90 rfl (lv_at hl 0 rfl) ?_
              refine lv_if_ne (tgt := 122) hx hb dX5_goDays_91 (by decide) (fun c12 => ?_) (fun c12 => ?_)
              · rw [if_neg c12] at hs18
                refine lv_iinc (v := (x18_l1 + 1)) (lv' := [(1, .int (x18_l1 + 1)), (2, .int o6), (0, .ref (q 0))]) hx hb dX5_goDays_122 hl (k := 1) rfl (by rfl) (by decide) rfl (fun ls hl => ?_)
                refine lv_goto (tgt := 18) hx hb dX5_goDays_125 (by decide) ?_
                obtain rfl := Option.some.inj hs18
                exact ih18 _ _ _ _ _ _ _ _ _ _ _ _ _ _ _ hw18 hP hD hS (lv_sub hl [0, 2] rfl)
              · rw [if_pos c12] at hs18
                refine lv_aload_n hx hb dX5_goDays_94 rfl (lv_at hl 2 rfl) ?_
                refine lv_aload_n hx hb dX5_goDays_95 rfl (lv_at hl 2 rfl) ?_
                refine va_get (D := D) (ci := 5) (v := .ref (q 11)) (C := RX5) (T := TX5) (N := 33) hx hb hts inX5_goDays_X5 hown hK hP 0 rfl rfl 13 (by decide) (hts (.fieldLink RX5 40 "WordScalesModel" "act" "[I") (List.mem_of_getElem? (i := 4) rfl)) (fun _ h9 => h9) rfl dX5_goDays_96 ?_
                refine lv_iload_n hx hb dX5_goDays_99 rfl (lv_at hl 1 rfl) ?_
                refine va_iald (D := D) (f := vact) hx hb hK hP 11 0 rfl rfl v5 dX5_goDays_100 ?_
                refine lv_aload_n hx hb dX5_goDays_101 rfl (lv_at hl 2 rfl) ?_
                refine va_get (D := D) (ci := 5) (v := .ref (q 12)) (C := RX5) (T := TX5) (N := 33) hx hb hts inX5_goDays_X5 hown hK hP 0 rfl rfl 14 (by decide) (hts (.fieldLink RX5 43 "WordScalesModel" "who" "[I") (List.mem_of_getElem? (i := 5) rfl)) (fun _ h9 => h9) rfl dX5_goDays_102 ?_
                refine lv_iload_n hx hb dX5_goDays_105 rfl (lv_at hl 1 rfl) ?_
                refine va_iald (D := D) (f := vwho) hx hb hK hP 12 0 rfl rfl v5 dX5_goDays_106 ?_
                refine lv_aload_n hx hb dX5_goDays_107 rfl (lv_at hl 2 rfl) ?_
                refine va_get (D := D) (ci := 5) (v := .ref (q 13)) (C := RX5) (T := TX5) (N := 33) hx hb hts inX5_goDays_X5 hown hK hP 0 rfl rfl 15 (by decide) (hts (.fieldLink RX5 46 "WordScalesModel" "which" "[I") (List.mem_of_getElem? (i := 6) rfl)) (fun _ h9 => h9) rfl dX5_goDays_108 ?_
                refine lv_iload_n hx hb dX5_goDays_111 rfl (lv_at hl 1 rfl) ?_
                refine va_iald (D := D) (f := vwhich) hx hb hK hP 13 0 rfl rfl v5 dX5_goDays_112 ?_
                refine lv_aload_n hx hb dX5_goDays_113 rfl (lv_at hl 2 rfl) ?_
                refine va_get (D := D) (ci := 5) (v := .ref (q 14)) (C := RX5) (T := TX5) (N := 33) hx hb hts inX5_goDays_X5 hown hK hP 0 rfl rfl 16 (by decide) (hts (.fieldLink RX5 49 "WordScalesModel" "whom" "[I") (List.mem_of_getElem? (i := 7) rfl)) (fun _ h9 => h9) rfl dX5_goDays_114 ?_
                refine lv_iload_n hx hb dX5_goDays_117 rfl (lv_at hl 1 rfl) ?_
                refine va_iald (D := D) (f := vwhom) hx hb hK hP 14 0 rfl rfl v5 dX5_goDays_118 ?_
                obtain ⟨o13, ho13, hs18⟩ := ob_el hs18
                refine kcw_v (D := D) (va_runV (As := [.int (vact (x18_l1).toNatClampNeg), .int (vwho (x18_l1).toNatClampNeg), .int (vwhich (x18_l1).toNatClampNeg), .int (vwhom (x18_l1).toNatClampNeg)]) (rest := []) ⟨hx, hb, hml, hown, hts⟩ ((k_X5_happen l D K q x18_weight vkind vrhymes x18_purse x18_has vwishes vwishMany vsightLeft vsightRight vsightHow vsights vpad vpadMany vact vwho vwhich vwhom vacts x18_place x18_openMany x18_ended x18_spoken x18_heaviest x18_heaviestWeight vhad x18_l1 o6 vbrings vbringsThen vkept visKept vkeptAt visWriting (vact (x18_l1).toNatClampNeg) (vwho (x18_l1).toNatClampNeg) (vwhich (x18_l1).toNatClampNeg) (vwhom (x18_l1).toNatClampNeg) o13 ho13) H.size) (cwV 4 hts gX5_goDays_X5_happen rfl rfl rfl ⟨rfl, yd_X5_happen⟩ ⟨Nat.le_of_ble_eq_true rfl, Nat.le_of_ble_eq_true rfl⟩) (kPreV (ci := 5) (q0 := 0) hP rfl rfl hP hD hK hN) rfl rfl hl.1 rfl (lv_room (Nat.le_of_ble_eq_true rfl)) dX5_goDays_119 ⟨Nat.le_of_ble_eq_true rfl, Nat.le_of_ble_eq_true rfl⟩) hD hS hA (fun H locs hP hD hS => ?_)
                have hP : va_P D vwCl (mdW K q o13.1 vkind vrhymes o13.2.1 o13.2.2.1 vwishes vwishMany vsightLeft vsightRight vsightHow vsights vpad vpadMany vact vwho vwhich vwhom vacts o13.2.2.2.1 o13.2.2.2.2.1 o13.2.2.2.2.2.1 o13.2.2.2.2.2.2.1 o13.2.2.2.2.2.2.2.1 o13.2.2.2.2.2.2.2.2 vhad x18_l1 o6 vbrings vbringsThen vkept visKept vkeptAt visWriting) H := hP
                have hD : va_D A (mdW K q o13.1 vkind vrhymes o13.2.1 o13.2.2.1 vwishes vwishMany vsightLeft vsightRight vsightHow vsights vpad vpadMany vact vwho vwhich vwhom vacts o13.2.2.2.1 o13.2.2.2.2.1 o13.2.2.2.2.2.1 o13.2.2.2.2.2.2.1 o13.2.2.2.2.2.2.2.1 o13.2.2.2.2.2.2.2.2 vhad x18_l1 o6 vbrings vbringsThen vkept visKept vkeptAt visWriting) := hD
                refine lv_iinc (v := (x18_l1 + 1)) (lv' := [(1, .int (x18_l1 + 1)), (2, .int o6), (0, .ref (q 0))]) hx hb dX5_goDays_122 hl (k := 1) rfl (by rfl) (by decide) rfl (fun ls hl => ?_)
                refine lv_goto (tgt := 18) hx hb dX5_goDays_125 (by decide) ?_
                obtain rfl := Option.some.inj hs18
                exact ih18 _ _ _ _ _ _ _ _ _ _ _ _ _ _ _ hw18 hP hD hS (lv_sub hl [0, 2] rfl)
  exact lp18 5000 _ _ _ _ _ _ _ _ _ _ _ _ _ _ _ hr2 hP hD hS (lv_sub hl [0, 1] rfl)
def f_X5_refusal (vweight : Nat → Int32) (vkind : Nat → Int32) (vpurse : Nat → Int32) (vhas : Nat → Int32) (vpad : Nat → Int32) (vpadMany : Int32) (vact : Nat → Int32) (vwho : Nat → Int32) (vwhich : Nat → Int32) (vwhom : Nat → Int32) (vplace : Int32) (vopenMany : Int32) (vended : Int32) (vspoken : Int32) (vheaviest : Int32) (vheaviestWeight : Int32) (vhad : Nat → Int32) (vbadAct : Int32) (vbadWhy : Int32) : Option (Int32 × (Nat → Int32) × (Nat → Int32) × (Nat → Int32) × (Nat → Int32) × (Nat → Int32) × (Nat → Int32) × (Nat → Int32) × Int32 × Int32 × Int32 × Int32 × Int32 × Int32 × Int32 × (Nat → Int32) × Int32 × Int32) := ob (f_X5_keepNow vweight vpurse vhas vhad) (fun o1 => ob (f_X5_fault vpad vpadMany vact vwho vwhich vwhom) (fun o2 => if o2.1 < 0 then (ob (f_X5_goDays vweight vkind vpurse vhas o2.2.1 o2.2.2.1 o2.2.2.2.1 o2.2.2.2.2.1 o2.2.2.2.2.2) (fun o4 => if o4.2.2.2.2.2.2.2.2.2.1 < 0 then (some ((-6), o4.1, o4.2.1, o4.2.2.1, o2.2.1, o2.2.2.1, o2.2.2.2.1, o2.2.2.2.2.1, o2.2.2.2.2.2, o4.2.2.2.1, o4.2.2.2.2.1, o4.2.2.2.2.2.1, o4.2.2.2.2.2.2.1, o4.2.2.2.2.2.2.2.1, o4.2.2.2.2.2.2.2.2.1, o1, o4.2.2.2.2.2.2.2.2.2.1, o4.2.2.2.2.2.2.2.2.2.2)) else (some ((-3), o4.1, o4.2.1, o4.2.2.1, o2.2.1, o2.2.2.1, o2.2.2.2.1, o2.2.2.2.2.1, o2.2.2.2.2.2, o4.2.2.2.1, o4.2.2.2.2.1, o4.2.2.2.2.2.1, o4.2.2.2.2.2.2.1, o4.2.2.2.2.2.2.2.1, o4.2.2.2.2.2.2.2.2.1, o1, o4.2.2.2.2.2.2.2.2.2.1, o4.2.2.2.2.2.2.2.2.2.2)))) else (some ((-5), vweight, vpurse, vhas, o2.2.1, o2.2.2.1, o2.2.2.2.1, o2.2.2.2.2.1, o2.2.2.2.2.2, vplace, vopenMany, vended, vspoken, vheaviest, vheaviestWeight, o1, vbadAct, vbadWhy))))
theorem inX5_refusal_X5 : ∀ w ∈ wsX50, w ∈ wsX5_refusal := fun w h => List.mem_cons_of_mem _ (List.mem_append_right _ h)
theorem yd_X5_refusal : yX5_refusal.cls ≠ "java/lang/invoke/MethodHandle" ∧ yX5_refusal.cls ≠ "java/lang/invoke/VarHandle" ∧ (parseMethodDescriptor yX5_refusal.desc).map (fun d => d.parameters.length) = some 0 := by decide +kernel
abbrev rmX5_refusal : Room := { frames := 4, cells := 0, slots := 0, locals := 91 }
set_option maxHeartbeats 4000000 in
set_option maxRecDepth 100000 in
theorem k_X5_refusal (l : Launch) (D : va_G) (K : Nat → ClassId) (q : Nat → Nat) (vweight : Nat → Int32) (vkind : Nat → Int32) (vrhymes : Nat → Int32) (vpurse : Nat → Int32) (vhas : Nat → Int32) (vwishes : Nat → Int32) (vwishMany : Int32) (vsightLeft : Nat → Int32) (vsightRight : Nat → Int32) (vsightHow : Nat → Int32) (vsights : Int32) (vpad : Nat → Int32) (vpadMany : Int32) (vact : Nat → Int32) (vwho : Nat → Int32) (vwhich : Nat → Int32) (vwhom : Nat → Int32) (vacts : Int32) (vplace : Int32) (vopenMany : Int32) (vended : Int32) (vspoken : Int32) (vheaviest : Int32) (vheaviestWeight : Int32) (vhad : Nat → Int32) (vbadAct : Int32) (vbadWhy : Int32) (vbrings : Nat → Int64) (vbringsThen : Nat → Int64) (vkept : Nat → Int32) (visKept : Nat → Int32) (vkeptAt : Int32) (visWriting : Int32) (out : Int32 × (Nat → Int32) × (Nat → Int32) × (Nat → Int32) × (Nat → Int32) × (Nat → Int32) × (Nat → Int32) × (Nat → Int32) × Int32 × Int32 × Int32 × Int32 × Int32 × Int32 × Int32 × (Nat → Int32) × Int32 × Int32) (hf : f_X5_refusal vweight vkind vpurse vhas vpad vpadMany vact vwho vwhich vwhom vplace vopenMany vended vspoken vheaviest vheaviestWeight vhad vbadAct vbadWhy = some out) : kI l D K .int yX5_refusal wsX5_refusal rmX5_refusal [.ref (q 0)] (mdW K q vweight vkind vrhymes vpurse vhas vwishes vwishMany vsightLeft vsightRight vsightHow vsights vpad vpadMany vact vwho vwhich vwhom vacts vplace vopenMany vended vspoken vheaviest vheaviestWeight vhad vbadAct vbadWhy vbrings vbringsThen vkept visKept vkeptAt visWriting) out.1 (mdW K q out.2.1 vkind vrhymes out.2.2.1 out.2.2.2.1 vwishes vwishMany vsightLeft vsightRight vsightHow vsights vpad vpadMany out.2.2.2.2.1 out.2.2.2.2.2.1 out.2.2.2.2.2.2.1 out.2.2.2.2.2.2.2.1 out.2.2.2.2.2.2.2.2.1 out.2.2.2.2.2.2.2.2.2.1 out.2.2.2.2.2.2.2.2.2.2.1 out.2.2.2.2.2.2.2.2.2.2.2.1 out.2.2.2.2.2.2.2.2.2.2.2.2.1 out.2.2.2.2.2.2.2.2.2.2.2.2.2.1 out.2.2.2.2.2.2.2.2.2.2.2.2.2.2.1 out.2.2.2.2.2.2.2.2.2.2.2.2.2.2.2.1 out.2.2.2.2.2.2.2.2.2.2.2.2.2.2.2.2.1 out.2.2.2.2.2.2.2.2.2.2.2.2.2.2.2.2.2 vbrings vbringsThen vkept visKept vkeptAt visWriting) := by
  refine kI.of (cc := cX5_refusal) (maxL := 1) (by decide) rfl (Nat.le_of_ble_eq_true rfl) ?_
  intro p e s m args below meth c A H0 Q ls hx hb hml hown hts hK hN hA hP hD hS hl hret
  have hown : s.vm.findClass RX5 = some m.cls := hown
  have hl : lv_has ls 1 [(0, .ref (q 0))] := hl
  generalize hH : H0 = H at hP ⊢
  have hS : va_S A H0 H [] := by rw [← hH]; exact hS
  clear hH
  unfold f_X5_refusal at hf
  refine lv_aload_n hx hb dX5_refusal_0 rfl (lv_at hl 0 rfl) ?_
  obtain ⟨o1, ho1, hf⟩ := ob_el hf
  refine kcw_v (D := D) (va_runV (As := []) (rest := []) ⟨hx, hb, hml, hown, hts⟩ ((k_X5_keepNow l D K q vweight vkind vrhymes vpurse vhas vwishes vwishMany vsightLeft vsightRight vsightHow vsights vpad vpadMany vact vwho vwhich vwhom vacts vplace vopenMany vended vspoken vheaviest vheaviestWeight vhad vbadAct vbadWhy vbrings vbringsThen vkept visKept vkeptAt visWriting o1 ho1) H.size) (cwV 0 hts gX5_refusal_X5_keepNow rfl rfl rfl ⟨rfl, yd_X5_keepNow⟩ ⟨Nat.le_of_ble_eq_true rfl, Nat.le_of_ble_eq_true rfl⟩) (kPreV (ci := 5) (q0 := 0) hP rfl rfl hP hD hK hN) rfl rfl hl.1 rfl (lv_room (Nat.le_of_ble_eq_true rfl)) dX5_refusal_1 ⟨Nat.le_of_ble_eq_true rfl, Nat.le_of_ble_eq_true rfl⟩) hD hS hA (fun H locs hP hD hS => ?_)
  have hP : va_P D vwCl (mdW K q vweight vkind vrhymes vpurse vhas vwishes vwishMany vsightLeft vsightRight vsightHow vsights vpad vpadMany vact vwho vwhich vwhom vacts vplace vopenMany vended vspoken vheaviest vheaviestWeight o1 vbadAct vbadWhy vbrings vbringsThen vkept visKept vkeptAt visWriting) H := hP
  have hD : va_D A (mdW K q vweight vkind vrhymes vpurse vhas vwishes vwishMany vsightLeft vsightRight vsightHow vsights vpad vpadMany vact vwho vwhich vwhom vacts vplace vopenMany vended vspoken vheaviest vheaviestWeight o1 vbadAct vbadWhy vbrings vbringsThen vkept visKept vkeptAt visWriting) := hD
  refine lv_aload_n hx hb dX5_refusal_4 rfl (lv_at hl 0 rfl) ?_
  obtain ⟨o2, ho2, hf⟩ := ob_el hf
  refine kcw_i (D := D) (va_runV (As := []) (rest := []) ⟨hx, hb, hml, hown, hts⟩ ((k_X5_fault l D K q vweight vkind vrhymes vpurse vhas vwishes vwishMany vsightLeft vsightRight vsightHow vsights vpad vpadMany vact vwho vwhich vwhom vacts vplace vopenMany vended vspoken vheaviest vheaviestWeight o1 vbadAct vbadWhy vbrings vbringsThen vkept visKept vkeptAt visWriting o2 ho2) H.size) (cwV 0 hts gX5_refusal_X5_fault rfl rfl rfl ⟨rfl, yd_X5_fault⟩ ⟨Nat.le_of_ble_eq_true rfl, Nat.le_of_ble_eq_true rfl⟩) (kPreV (ci := 5) (q0 := 0) hP rfl rfl hP hD hK hN) rfl rfl hl.1 rfl (lv_room (Nat.le_of_ble_eq_true rfl)) dX5_refusal_5 ⟨Nat.le_of_ble_eq_true rfl, Nat.le_of_ble_eq_true rfl⟩) hD hS hA (fun hzo2 H locs hP hD hS => ?_)
  have hP : va_P D vwCl (mdW K q vweight vkind vrhymes vpurse vhas vwishes vwishMany vsightLeft vsightRight vsightHow vsights vpad vpadMany o2.2.1 o2.2.2.1 o2.2.2.2.1 o2.2.2.2.2.1 o2.2.2.2.2.2 vplace vopenMany vended vspoken vheaviest vheaviestWeight o1 vbadAct vbadWhy vbrings vbringsThen vkept visKept vkeptAt visWriting) H := hP
  have hD : va_D A (mdW K q vweight vkind vrhymes vpurse vhas vwishes vwishMany vsightLeft vsightRight vsightHow vsights vpad vpadMany o2.2.1 o2.2.2.1 o2.2.2.2.1 o2.2.2.2.2.1 o2.2.2.2.2.2 vplace vopenMany vended vspoken vheaviest vheaviestWeight o1 vbadAct vbadWhy vbrings vbringsThen vkept visKept vkeptAt visWriting) := hD
  refine lv_if_lt (tgt := 14) hx hb dX5_refusal_8 (by decide) (fun c3 => ?_) (fun c3 => ?_)
  · rw [if_pos c3] at hf
    refine lv_aload_n hx hb dX5_refusal_14 rfl (lv_at hl 0 rfl) ?_
    obtain ⟨o4, ho4, hf⟩ := ob_el hf
    refine kcw_v (D := D) (va_runV (As := []) (rest := []) ⟨hx, hb, hml, hown, hts⟩ ((k_X5_goDays l D K q vweight vkind vrhymes vpurse vhas vwishes vwishMany vsightLeft vsightRight vsightHow vsights vpad vpadMany o2.2.1 o2.2.2.1 o2.2.2.2.1 o2.2.2.2.2.1 o2.2.2.2.2.2 vplace vopenMany vended vspoken vheaviest vheaviestWeight o1 vbadAct vbadWhy vbrings vbringsThen vkept visKept vkeptAt visWriting o4 ho4) H.size) (cwV 0 hts gX5_refusal_X5_goDays rfl rfl rfl ⟨rfl, yd_X5_goDays⟩ ⟨Nat.le_of_ble_eq_true rfl, Nat.le_of_ble_eq_true rfl⟩) (kPreV (ci := 5) (q0 := 0) hP rfl rfl hP hD hK hN) rfl rfl hl.1 rfl (lv_room (Nat.le_of_ble_eq_true rfl)) dX5_refusal_15 ⟨Nat.le_of_ble_eq_true rfl, Nat.le_of_ble_eq_true rfl⟩) hD hS hA (fun H locs hP hD hS => ?_)
    have hP : va_P D vwCl (mdW K q o4.1 vkind vrhymes o4.2.1 o4.2.2.1 vwishes vwishMany vsightLeft vsightRight vsightHow vsights vpad vpadMany o2.2.1 o2.2.2.1 o2.2.2.2.1 o2.2.2.2.2.1 o2.2.2.2.2.2 o4.2.2.2.1 o4.2.2.2.2.1 o4.2.2.2.2.2.1 o4.2.2.2.2.2.2.1 o4.2.2.2.2.2.2.2.1 o4.2.2.2.2.2.2.2.2.1 o1 o4.2.2.2.2.2.2.2.2.2.1 o4.2.2.2.2.2.2.2.2.2.2 vbrings vbringsThen vkept visKept vkeptAt visWriting) H := hP
    have hD : va_D A (mdW K q o4.1 vkind vrhymes o4.2.1 o4.2.2.1 vwishes vwishMany vsightLeft vsightRight vsightHow vsights vpad vpadMany o2.2.1 o2.2.2.1 o2.2.2.2.1 o2.2.2.2.2.1 o2.2.2.2.2.2 o4.2.2.2.1 o4.2.2.2.2.1 o4.2.2.2.2.2.1 o4.2.2.2.2.2.2.1 o4.2.2.2.2.2.2.2.1 o4.2.2.2.2.2.2.2.2.1 o1 o4.2.2.2.2.2.2.2.2.2.1 o4.2.2.2.2.2.2.2.2.2.2 vbrings vbringsThen vkept visKept vkeptAt visWriting) := hD
    refine lv_aload_n hx hb dX5_refusal_18 rfl (lv_at hl 0 rfl) ?_
    refine va_get (D := D) (ci := 5) (v := .int o4.2.2.2.2.2.2.2.2.2.1) (C := RX5) (T := TX5) (N := 33) hx hb hts inX5_refusal_X5 hown hK hP 0 rfl rfl 25 (by decide) (hts (.fieldLink RX5 167 "WordScalesModel" "badAct" "I") (List.mem_of_getElem? (i := 1) rfl)) (fun _ h9 => h9) rfl dX5_refusal_19 ?_
    refine lv_if_lt (tgt := 30) hx hb dX5_refusal_22 (by decide) (fun c5 => ?_) (fun c5 => ?_)
    · rw [if_pos c5] at hf
      refine lv_bipush (v := (-6)) hx hb dX5_refusal_30 (by decide) ?_
      obtain rfl := Option.some.inj hf
      exact hret rfl rfl rfl hP hD hS dX5_refusal_32
    · rw [if_neg c5] at hf
      refine lv_bipush (v := (-3)) hx hb dX5_refusal_25 (by decide) ?_
      refine lv_goto (tgt := 32) hx hb dX5_refusal_27 (by decide) ?_
      obtain rfl := Option.some.inj hf
      exact hret rfl rfl rfl hP hD hS dX5_refusal_32
  · rw [if_neg c3] at hf
    refine lv_bipush (v := (-5)) hx hb dX5_refusal_11 (by decide) ?_
    obtain rfl := Option.some.inj hf
    exact hret rfl rfl rfl hP hD hS dX5_refusal_13
def f_X5_judge (vweight : Nat → Int32) (vkind : Nat → Int32) (vpurse : Nat → Int32) (vhas : Nat → Int32) (vpad : Nat → Int32) (vpadMany : Int32) (vact : Nat → Int32) (vwho : Nat → Int32) (vwhich : Nat → Int32) (vwhom : Nat → Int32) (vacts : Int32) (vplace : Int32) (vopenMany : Int32) (vended : Int32) (vspoken : Int32) (vheaviest : Int32) (vheaviestWeight : Int32) (vhad : Nat → Int32) (vbadAct : Int32) (vbadWhy : Int32) (p0 : Int32) : Option (Int32 × (Nat → Int32) × (Nat → Int32) × (Nat → Int32) × (Nat → Int32) × (Nat → Int32) × (Nat → Int32) × (Nat → Int32) × Int32 × Int32 × Int32 × Int32 × Int32 × Int32 × Int32 × (Nat → Int32) × Int32 × Int32) := bd (f_X5_in p0.toInt64 (0) (2)) (fun o1 => if o1 = 0 then (some ((-2), vweight, vpurse, vhas, vact, vwho, vwhich, vwhom, vacts, vplace, vopenMany, vended, vspoken, vheaviest, vheaviestWeight, vhad, vbadAct, vbadWhy)) else (ob (f_X5_refusal vweight vkind vpurse vhas vpad vpadMany vact vwho vwhich vwhom vplace vopenMany vended vspoken vheaviest vheaviestWeight vhad vbadAct vbadWhy) (fun o3 => ob (f_X5_back o3.2.1 o3.2.2.1 o3.2.2.2.1 o3.2.2.2.2.2.2.2.2.2.2.2.2.2.2.2.1 o3.1) (fun o4 => if o4.1 = (-5) then (some (o4.1, o4.2.1, o4.2.2.1, o4.2.2.2, o3.2.2.2.2.1, o3.2.2.2.2.2.1, o3.2.2.2.2.2.2.1, o3.2.2.2.2.2.2.2.1, o3.2.2.2.2.2.2.2.2.1, o3.2.2.2.2.2.2.2.2.2.1, o3.2.2.2.2.2.2.2.2.2.2.1, o3.2.2.2.2.2.2.2.2.2.2.2.1, o3.2.2.2.2.2.2.2.2.2.2.2.2.1, o3.2.2.2.2.2.2.2.2.2.2.2.2.2.1, o3.2.2.2.2.2.2.2.2.2.2.2.2.2.2.1, o3.2.2.2.2.2.2.2.2.2.2.2.2.2.2.2.1, o3.2.2.2.2.2.2.2.2.2.2.2.2.2.2.2.2.1, o3.2.2.2.2.2.2.2.2.2.2.2.2.2.2.2.2.2)) else (if p0 ≤ 1 then (if p0 = 0 then (some (o3.2.2.2.2.2.2.2.2.2.2.2.2.2.2.2.2.1, o4.2.1, o4.2.2.1, o4.2.2.2, o3.2.2.2.2.1, o3.2.2.2.2.2.1, o3.2.2.2.2.2.2.1, o3.2.2.2.2.2.2.2.1, o3.2.2.2.2.2.2.2.2.1, o3.2.2.2.2.2.2.2.2.2.1, o3.2.2.2.2.2.2.2.2.2.2.1, o3.2.2.2.2.2.2.2.2.2.2.2.1, o3.2.2.2.2.2.2.2.2.2.2.2.2.1, o3.2.2.2.2.2.2.2.2.2.2.2.2.2.1, o3.2.2.2.2.2.2.2.2.2.2.2.2.2.2.1, o3.2.2.2.2.2.2.2.2.2.2.2.2.2.2.2.1, o3.2.2.2.2.2.2.2.2.2.2.2.2.2.2.2.2.1, o3.2.2.2.2.2.2.2.2.2.2.2.2.2.2.2.2.2)) else (if p0 = 1 then (some (o3.2.2.2.2.2.2.2.2.2.2.2.2.2.2.2.2.2, o4.2.1, o4.2.2.1, o4.2.2.2, o3.2.2.2.2.1, o3.2.2.2.2.2.1, o3.2.2.2.2.2.2.1, o3.2.2.2.2.2.2.2.1, o3.2.2.2.2.2.2.2.2.1, o3.2.2.2.2.2.2.2.2.2.1, o3.2.2.2.2.2.2.2.2.2.2.1, o3.2.2.2.2.2.2.2.2.2.2.2.1, o3.2.2.2.2.2.2.2.2.2.2.2.2.1, o3.2.2.2.2.2.2.2.2.2.2.2.2.2.1, o3.2.2.2.2.2.2.2.2.2.2.2.2.2.2.1, o3.2.2.2.2.2.2.2.2.2.2.2.2.2.2.2.1, o3.2.2.2.2.2.2.2.2.2.2.2.2.2.2.2.2.1, o3.2.2.2.2.2.2.2.2.2.2.2.2.2.2.2.2.2)) else (some (o3.2.2.2.2.2.2.2.2.2.2.2.1, o4.2.1, o4.2.2.1, o4.2.2.2, o3.2.2.2.2.1, o3.2.2.2.2.2.1, o3.2.2.2.2.2.2.1, o3.2.2.2.2.2.2.2.1, o3.2.2.2.2.2.2.2.2.1, o3.2.2.2.2.2.2.2.2.2.1, o3.2.2.2.2.2.2.2.2.2.2.1, o3.2.2.2.2.2.2.2.2.2.2.2.1, o3.2.2.2.2.2.2.2.2.2.2.2.2.1, o3.2.2.2.2.2.2.2.2.2.2.2.2.2.1, o3.2.2.2.2.2.2.2.2.2.2.2.2.2.2.1, o3.2.2.2.2.2.2.2.2.2.2.2.2.2.2.2.1, o3.2.2.2.2.2.2.2.2.2.2.2.2.2.2.2.2.1, o3.2.2.2.2.2.2.2.2.2.2.2.2.2.2.2.2.2)))) else (if o4.1 = (-3) then (some (o4.1, o4.2.1, o4.2.2.1, o4.2.2.2, o3.2.2.2.2.1, o3.2.2.2.2.2.1, o3.2.2.2.2.2.2.1, o3.2.2.2.2.2.2.2.1, o3.2.2.2.2.2.2.2.2.1, o3.2.2.2.2.2.2.2.2.2.1, o3.2.2.2.2.2.2.2.2.2.2.1, o3.2.2.2.2.2.2.2.2.2.2.2.1, o3.2.2.2.2.2.2.2.2.2.2.2.2.1, o3.2.2.2.2.2.2.2.2.2.2.2.2.2.1, o3.2.2.2.2.2.2.2.2.2.2.2.2.2.2.1, o3.2.2.2.2.2.2.2.2.2.2.2.2.2.2.2.1, o3.2.2.2.2.2.2.2.2.2.2.2.2.2.2.2.2.1, o3.2.2.2.2.2.2.2.2.2.2.2.2.2.2.2.2.2)) else (if p0 = 0 then (some (o3.2.2.2.2.2.2.2.2.2.2.2.2.2.2.2.2.1, o4.2.1, o4.2.2.1, o4.2.2.2, o3.2.2.2.2.1, o3.2.2.2.2.2.1, o3.2.2.2.2.2.2.1, o3.2.2.2.2.2.2.2.1, o3.2.2.2.2.2.2.2.2.1, o3.2.2.2.2.2.2.2.2.2.1, o3.2.2.2.2.2.2.2.2.2.2.1, o3.2.2.2.2.2.2.2.2.2.2.2.1, o3.2.2.2.2.2.2.2.2.2.2.2.2.1, o3.2.2.2.2.2.2.2.2.2.2.2.2.2.1, o3.2.2.2.2.2.2.2.2.2.2.2.2.2.2.1, o3.2.2.2.2.2.2.2.2.2.2.2.2.2.2.2.1, o3.2.2.2.2.2.2.2.2.2.2.2.2.2.2.2.2.1, o3.2.2.2.2.2.2.2.2.2.2.2.2.2.2.2.2.2)) else (if p0 = 1 then (some (o3.2.2.2.2.2.2.2.2.2.2.2.2.2.2.2.2.2, o4.2.1, o4.2.2.1, o4.2.2.2, o3.2.2.2.2.1, o3.2.2.2.2.2.1, o3.2.2.2.2.2.2.1, o3.2.2.2.2.2.2.2.1, o3.2.2.2.2.2.2.2.2.1, o3.2.2.2.2.2.2.2.2.2.1, o3.2.2.2.2.2.2.2.2.2.2.1, o3.2.2.2.2.2.2.2.2.2.2.2.1, o3.2.2.2.2.2.2.2.2.2.2.2.2.1, o3.2.2.2.2.2.2.2.2.2.2.2.2.2.1, o3.2.2.2.2.2.2.2.2.2.2.2.2.2.2.1, o3.2.2.2.2.2.2.2.2.2.2.2.2.2.2.2.1, o3.2.2.2.2.2.2.2.2.2.2.2.2.2.2.2.2.1, o3.2.2.2.2.2.2.2.2.2.2.2.2.2.2.2.2.2)) else (some (o3.2.2.2.2.2.2.2.2.2.2.2.1, o4.2.1, o4.2.2.1, o4.2.2.2, o3.2.2.2.2.1, o3.2.2.2.2.2.1, o3.2.2.2.2.2.2.1, o3.2.2.2.2.2.2.2.1, o3.2.2.2.2.2.2.2.2.1, o3.2.2.2.2.2.2.2.2.2.1, o3.2.2.2.2.2.2.2.2.2.2.1, o3.2.2.2.2.2.2.2.2.2.2.2.1, o3.2.2.2.2.2.2.2.2.2.2.2.2.1, o3.2.2.2.2.2.2.2.2.2.2.2.2.2.1, o3.2.2.2.2.2.2.2.2.2.2.2.2.2.2.1, o3.2.2.2.2.2.2.2.2.2.2.2.2.2.2.2.1, o3.2.2.2.2.2.2.2.2.2.2.2.2.2.2.2.2.1, o3.2.2.2.2.2.2.2.2.2.2.2.2.2.2.2.2.2))))))))))
theorem inX5_judge_X5 : ∀ w ∈ wsX50, w ∈ wsX5_judge := fun w h => List.mem_cons_of_mem _ (List.mem_append_right _ h)
theorem yd_X5_judge : yX5_judge.cls ≠ "java/lang/invoke/MethodHandle" ∧ yX5_judge.cls ≠ "java/lang/invoke/VarHandle" ∧ (parseMethodDescriptor yX5_judge.desc).map (fun d => d.parameters.length) = some 1 := by decide +kernel
abbrev rmX5_judge : Room := { frames := 5, cells := 0, slots := 0, locals := 111 }
set_option maxHeartbeats 4000000 in
set_option maxRecDepth 100000 in
theorem k_X5_judge (l : Launch) (D : va_G) (K : Nat → ClassId) (q : Nat → Nat) (vweight : Nat → Int32) (vkind : Nat → Int32) (vrhymes : Nat → Int32) (vpurse : Nat → Int32) (vhas : Nat → Int32) (vwishes : Nat → Int32) (vwishMany : Int32) (vsightLeft : Nat → Int32) (vsightRight : Nat → Int32) (vsightHow : Nat → Int32) (vsights : Int32) (vpad : Nat → Int32) (vpadMany : Int32) (vact : Nat → Int32) (vwho : Nat → Int32) (vwhich : Nat → Int32) (vwhom : Nat → Int32) (vacts : Int32) (vplace : Int32) (vopenMany : Int32) (vended : Int32) (vspoken : Int32) (vheaviest : Int32) (vheaviestWeight : Int32) (vhad : Nat → Int32) (vbadAct : Int32) (vbadWhy : Int32) (vbrings : Nat → Int64) (vbringsThen : Nat → Int64) (vkept : Nat → Int32) (visKept : Nat → Int32) (vkeptAt : Int32) (visWriting : Int32) (p0 : Int32) (out : Int32 × (Nat → Int32) × (Nat → Int32) × (Nat → Int32) × (Nat → Int32) × (Nat → Int32) × (Nat → Int32) × (Nat → Int32) × Int32 × Int32 × Int32 × Int32 × Int32 × Int32 × Int32 × (Nat → Int32) × Int32 × Int32) (hf : f_X5_judge vweight vkind vpurse vhas vpad vpadMany vact vwho vwhich vwhom vacts vplace vopenMany vended vspoken vheaviest vheaviestWeight vhad vbadAct vbadWhy p0 = some out) : kI l D K .int yX5_judge wsX5_judge rmX5_judge [.ref (q 0), .int p0] (mdW K q vweight vkind vrhymes vpurse vhas vwishes vwishMany vsightLeft vsightRight vsightHow vsights vpad vpadMany vact vwho vwhich vwhom vacts vplace vopenMany vended vspoken vheaviest vheaviestWeight vhad vbadAct vbadWhy vbrings vbringsThen vkept visKept vkeptAt visWriting) out.1 (mdW K q out.2.1 vkind vrhymes out.2.2.1 out.2.2.2.1 vwishes vwishMany vsightLeft vsightRight vsightHow vsights vpad vpadMany out.2.2.2.2.1 out.2.2.2.2.2.1 out.2.2.2.2.2.2.1 out.2.2.2.2.2.2.2.1 out.2.2.2.2.2.2.2.2.1 out.2.2.2.2.2.2.2.2.2.1 out.2.2.2.2.2.2.2.2.2.2.1 out.2.2.2.2.2.2.2.2.2.2.2.1 out.2.2.2.2.2.2.2.2.2.2.2.2.1 out.2.2.2.2.2.2.2.2.2.2.2.2.2.1 out.2.2.2.2.2.2.2.2.2.2.2.2.2.2.1 out.2.2.2.2.2.2.2.2.2.2.2.2.2.2.2.1 out.2.2.2.2.2.2.2.2.2.2.2.2.2.2.2.2.1 out.2.2.2.2.2.2.2.2.2.2.2.2.2.2.2.2.2 vbrings vbringsThen vkept visKept vkeptAt visWriting) := by
  refine kI.of (cc := cX5_judge) (maxL := 3) (by decide) rfl (Nat.le_of_ble_eq_true rfl) ?_
  intro p e s m args below meth c A H0 Q ls hx hb hml hown hts hK hN hA hP hD hS hl hret
  have hown : s.vm.findClass RX5 = some m.cls := hown
  have hl : lv_has ls 3 [(0, .ref (q 0)), (1, .int p0)] := hl
  generalize hH : H0 = H at hP ⊢
  have hS : va_S A H0 H [] := by rw [← hH]; exact hS
  clear hH
  unfold f_X5_judge at hf
  refine lv_iload_n hx hb dX5_judge_0 rfl (lv_at hl 1 rfl) ?_
  refine lv_i2l (v := p0.toInt64) hx hb dX5_judge_1 rfl ?_
  refine lv_lconst (v := 0) hx hb dX5_judge_2 (by decide) ?_
  refine lv_ldc2 hx hb hown (hts (.constantLong RX5 83 (2)) (List.mem_of_getElem? (i := 1) rfl)) dX5_judge_3 ?_
  obtain ⟨o1, ho1, hf⟩ := bd_el hf
  refine kc0_i (D := D) (va_runS (As := [.long p0.toInt64, .long 0, .long 2]) (rest := []) ⟨hx, hb, hml, hown, hts⟩ ((k_X5_in l D K p0.toInt64 (0) (2) o1 ho1) H.size) (va_cwS 3 hts gX5_judge_X5_in rfl rfl rfl yd_X5_in ⟨Nat.le_of_ble_eq_true rfl, Nat.le_of_ble_eq_true rfl⟩) (kPreS va_P_nil (va_D_nil (A := fun _ => True)) hK hN) rfl rfl hl.1 rfl (lv_room (Nat.le_of_ble_eq_true rfl)) dX5_judge_6 ⟨Nat.le_of_ble_eq_true rfl, Nat.le_of_ble_eq_true rfl⟩) hP hS hA (fun hzo1 H locs hP hS => ?_)
  refine lv_if_ne (tgt := 15) hx hb dX5_judge_9 (by decide) (fun c2 => ?_) (fun c2 => ?_)
  · rw [if_neg c2] at hf
    refine lv_aload_n hx hb dX5_judge_15 rfl (lv_at hl 0 rfl) ?_
    refine lv_aload_n hx hb dX5_judge_16 rfl (lv_at hl 0 rfl) ?_
    obtain ⟨o3, ho3, hf⟩ := ob_el hf
    refine kcw_i (D := D) (va_runV (As := []) (rest := [.ref (q 0)]) ⟨hx, hb, hml, hown, hts⟩ ((k_X5_refusal l D K q vweight vkind vrhymes vpurse vhas vwishes vwishMany vsightLeft vsightRight vsightHow vsights vpad vpadMany vact vwho vwhich vwhom vacts vplace vopenMany vended vspoken vheaviest vheaviestWeight vhad vbadAct vbadWhy vbrings vbringsThen vkept visKept vkeptAt visWriting o3 ho3) H.size) (cwV 0 hts gX5_judge_X5_refusal rfl rfl rfl ⟨rfl, yd_X5_refusal⟩ ⟨Nat.le_of_ble_eq_true rfl, Nat.le_of_ble_eq_true rfl⟩) (kPreV (ci := 5) (q0 := 0) hP rfl rfl hP hD hK hN) rfl rfl hl.1 rfl (lv_room (Nat.le_of_ble_eq_true rfl)) dX5_judge_17 ⟨Nat.le_of_ble_eq_true rfl, Nat.le_of_ble_eq_true rfl⟩) hD hS hA (fun hzo3 H locs hP hD hS => ?_)
    have hP : va_P D vwCl (mdW K q o3.2.1 vkind vrhymes o3.2.2.1 o3.2.2.2.1 vwishes vwishMany vsightLeft vsightRight vsightHow vsights vpad vpadMany o3.2.2.2.2.1 o3.2.2.2.2.2.1 o3.2.2.2.2.2.2.1 o3.2.2.2.2.2.2.2.1 o3.2.2.2.2.2.2.2.2.1 o3.2.2.2.2.2.2.2.2.2.1 o3.2.2.2.2.2.2.2.2.2.2.1 o3.2.2.2.2.2.2.2.2.2.2.2.1 o3.2.2.2.2.2.2.2.2.2.2.2.2.1 o3.2.2.2.2.2.2.2.2.2.2.2.2.2.1 o3.2.2.2.2.2.2.2.2.2.2.2.2.2.2.1 o3.2.2.2.2.2.2.2.2.2.2.2.2.2.2.2.1 o3.2.2.2.2.2.2.2.2.2.2.2.2.2.2.2.2.1 o3.2.2.2.2.2.2.2.2.2.2.2.2.2.2.2.2.2 vbrings vbringsThen vkept visKept vkeptAt visWriting) H := hP
    have hD : va_D A (mdW K q o3.2.1 vkind vrhymes o3.2.2.1 o3.2.2.2.1 vwishes vwishMany vsightLeft vsightRight vsightHow vsights vpad vpadMany o3.2.2.2.2.1 o3.2.2.2.2.2.1 o3.2.2.2.2.2.2.1 o3.2.2.2.2.2.2.2.1 o3.2.2.2.2.2.2.2.2.1 o3.2.2.2.2.2.2.2.2.2.1 o3.2.2.2.2.2.2.2.2.2.2.1 o3.2.2.2.2.2.2.2.2.2.2.2.1 o3.2.2.2.2.2.2.2.2.2.2.2.2.1 o3.2.2.2.2.2.2.2.2.2.2.2.2.2.1 o3.2.2.2.2.2.2.2.2.2.2.2.2.2.2.1 o3.2.2.2.2.2.2.2.2.2.2.2.2.2.2.2.1 o3.2.2.2.2.2.2.2.2.2.2.2.2.2.2.2.2.1 o3.2.2.2.2.2.2.2.2.2.2.2.2.2.2.2.2.2 vbrings vbringsThen vkept visKept vkeptAt visWriting) := hD
    obtain ⟨o4, ho4, hf⟩ := ob_el hf
    refine kcw_i (D := D) (va_runV (As := [.int o3.1]) (rest := []) ⟨hx, hb, hml, hown, hts⟩ ((k_X5_back l D K q o3.2.1 vkind vrhymes o3.2.2.1 o3.2.2.2.1 vwishes vwishMany vsightLeft vsightRight vsightHow vsights vpad vpadMany o3.2.2.2.2.1 o3.2.2.2.2.2.1 o3.2.2.2.2.2.2.1 o3.2.2.2.2.2.2.2.1 o3.2.2.2.2.2.2.2.2.1 o3.2.2.2.2.2.2.2.2.2.1 o3.2.2.2.2.2.2.2.2.2.2.1 o3.2.2.2.2.2.2.2.2.2.2.2.1 o3.2.2.2.2.2.2.2.2.2.2.2.2.1 o3.2.2.2.2.2.2.2.2.2.2.2.2.2.1 o3.2.2.2.2.2.2.2.2.2.2.2.2.2.2.1 o3.2.2.2.2.2.2.2.2.2.2.2.2.2.2.2.1 o3.2.2.2.2.2.2.2.2.2.2.2.2.2.2.2.2.1 o3.2.2.2.2.2.2.2.2.2.2.2.2.2.2.2.2.2 vbrings vbringsThen vkept visKept vkeptAt visWriting o3.1 o4 ho4) H.size) (cwV 1 hts gX5_judge_X5_back rfl rfl rfl ⟨rfl, yd_X5_back⟩ ⟨Nat.le_of_ble_eq_true rfl, Nat.le_of_ble_eq_true rfl⟩) (kPreV (ci := 5) (q0 := 0) hP rfl rfl hP hD hK hN) rfl rfl hl.1 rfl (lv_room (Nat.le_of_ble_eq_true rfl)) dX5_judge_20 ⟨Nat.le_of_ble_eq_true rfl, Nat.le_of_ble_eq_true rfl⟩) hD hS hA (fun hzo4 H locs hP hD hS => ?_)
    have hP : va_P D vwCl (mdW K q o4.2.1 vkind vrhymes o4.2.2.1 o4.2.2.2 vwishes vwishMany vsightLeft vsightRight vsightHow vsights vpad vpadMany o3.2.2.2.2.1 o3.2.2.2.2.2.1 o3.2.2.2.2.2.2.1 o3.2.2.2.2.2.2.2.1 o3.2.2.2.2.2.2.2.2.1 o3.2.2.2.2.2.2.2.2.2.1 o3.2.2.2.2.2.2.2.2.2.2.1 o3.2.2.2.2.2.2.2.2.2.2.2.1 o3.2.2.2.2.2.2.2.2.2.2.2.2.1 o3.2.2.2.2.2.2.2.2.2.2.2.2.2.1 o3.2.2.2.2.2.2.2.2.2.2.2.2.2.2.1 o3.2.2.2.2.2.2.2.2.2.2.2.2.2.2.2.1 o3.2.2.2.2.2.2.2.2.2.2.2.2.2.2.2.2.1 o3.2.2.2.2.2.2.2.2.2.2.2.2.2.2.2.2.2 vbrings vbringsThen vkept visKept vkeptAt visWriting) H := hP
    have hD : va_D A (mdW K q o4.2.1 vkind vrhymes o4.2.2.1 o4.2.2.2 vwishes vwishMany vsightLeft vsightRight vsightHow vsights vpad vpadMany o3.2.2.2.2.1 o3.2.2.2.2.2.1 o3.2.2.2.2.2.2.1 o3.2.2.2.2.2.2.2.1 o3.2.2.2.2.2.2.2.2.1 o3.2.2.2.2.2.2.2.2.2.1 o3.2.2.2.2.2.2.2.2.2.2.1 o3.2.2.2.2.2.2.2.2.2.2.2.1 o3.2.2.2.2.2.2.2.2.2.2.2.2.1 o3.2.2.2.2.2.2.2.2.2.2.2.2.2.1 o3.2.2.2.2.2.2.2.2.2.2.2.2.2.2.1 o3.2.2.2.2.2.2.2.2.2.2.2.2.2.2.2.1 o3.2.2.2.2.2.2.2.2.2.2.2.2.2.2.2.2.1 o3.2.2.2.2.2.2.2.2.2.2.2.2.2.2.2.2.2 vbrings vbringsThen vkept visKept vkeptAt visWriting) := hD
    refine lv_istore_n (lv' := [(2, .int o4.1), (0, .ref (q 0)), (1, .int p0)]) hx hb dX5_judge_23 rfl hl (by decide) rfl (fun ls hl => ?_)
    refine lv_iload_n hx hb dX5_judge_24 rfl (lv_at hl 0 rfl) ?_
    refine lv_bipush (v := (-5)) hx hb dX5_judge_25 (by decide) ?_
    refine lv_icmp_eq (tgt := 41) hx hb dX5_judge_27 (by decide) (fun c5 => ?_) (fun c5 => ?_)
    · rw [if_pos c5] at hf
      refine lv_iload_n hx hb dX5_judge_41 rfl (lv_at hl 0 rfl) ?_
      obtain rfl := Option.some.inj hf
      exact hret rfl rfl rfl hP hD hS dX5_judge_42
    · rw [if_neg c5] at hf
      refine lv_iload_n hx hb dX5_judge_30 rfl (lv_at hl 2 rfl) ?_
      refine lv_iconst (v := 1) hx hb dX5_judge_31 (by decide) ?_
      refine lv_icmp_le (tgt := 43) hx hb dX5_judge_32 (by decide) (fun c6 => ?_) (fun c6 => ?_)
      · rw [if_pos c6] at hf
        refine lv_iload_n hx hb dX5_judge_43 rfl (lv_at hl 2 rfl) ?_
        refine lv_if_ne (tgt := 54) hx hb dX5_judge_44 (by decide) (fun c7 => ?_) (fun c7 => ?_)
        · rw [if_neg c7] at hf
          refine lv_iload_n hx hb dX5_judge_54 rfl (lv_at hl 2 rfl) ?_
          refine lv_iconst (v := 1) hx hb dX5_judge_55 (by decide) ?_
          refine lv_icmp_ne (tgt := 66) hx hb dX5_judge_56 (by decide) (fun c8 => ?_) (fun c8 => ?_)
          · rw [if_neg c8] at hf
            refine lv_aload_n hx hb dX5_judge_66 rfl (lv_at hl 1 rfl) ?_
            refine va_get (D := D) (ci := 5) (v := .int o3.2.2.2.2.2.2.2.2.2.2.2.1) (C := RX5) (T := TX5) (N := 33) hx hb hts inX5_judge_X5 hown hK hP 0 rfl rfl 20 (by decide) (hts (.fieldLink RX5 157 "WordScalesModel" "ended" "I") (List.mem_of_getElem? (i := 4) rfl)) (fun _ h9 => h9) rfl dX5_judge_67 ?_
            obtain rfl := Option.some.inj hf
            exact hret rfl rfl rfl hP hD hS dX5_judge_70
          · rw [if_pos c8] at hf
            refine lv_aload_n hx hb dX5_judge_59 rfl (lv_at hl 1 rfl) ?_
            refine va_get (D := D) (ci := 5) (v := .int o3.2.2.2.2.2.2.2.2.2.2.2.2.2.2.2.2.2) (C := RX5) (T := TX5) (N := 33) hx hb hts inX5_judge_X5 hown hK hP 0 rfl rfl 26 (by decide) (hts (.fieldLink RX5 170 "WordScalesModel" "badWhy" "I") (List.mem_of_getElem? (i := 3) rfl)) (fun _ h9 => h9) rfl dX5_judge_60 ?_
            refine lv_goto (tgt := 70) hx hb dX5_judge_63 (by decide) ?_
            obtain rfl := Option.some.inj hf
            exact hret rfl rfl rfl hP hD hS dX5_judge_70
        · rw [if_pos c7] at hf
          refine lv_aload_n hx hb dX5_judge_47 rfl (lv_at hl 1 rfl) ?_
          refine va_get (D := D) (ci := 5) (v := .int o3.2.2.2.2.2.2.2.2.2.2.2.2.2.2.2.2.1) (C := RX5) (T := TX5) (N := 33) hx hb hts inX5_judge_X5 hown hK hP 0 rfl rfl 25 (by decide) (hts (.fieldLink RX5 167 "WordScalesModel" "badAct" "I") (List.mem_of_getElem? (i := 2) rfl)) (fun _ h9 => h9) rfl dX5_judge_48 ?_
          refine lv_goto (tgt := 70) hx hb dX5_judge_51 (by decide) ?_
          obtain rfl := Option.some.inj hf
          exact hret rfl rfl rfl hP hD hS dX5_judge_70
      · rw [if_neg c6] at hf
        refine lv_iload_n hx hb dX5_judge_35 rfl (lv_at hl 0 rfl) ?_
        refine lv_bipush (v := (-3)) hx hb dX5_judge_36 (by decide) ?_
        refine lv_icmp_ne (tgt := 43) hx hb dX5_judge_38 (by decide) (fun c9 => ?_) (fun c9 => ?_)
        · rw [if_neg c9] at hf
          refine lv_iload_n hx hb dX5_judge_43 rfl (lv_at hl 2 rfl) ?_
          refine lv_if_ne (tgt := 54) hx hb dX5_judge_44 (by decide) (fun c10 => ?_) (fun c10 => ?_)
          · rw [if_neg c10] at hf
            refine lv_iload_n hx hb dX5_judge_54 rfl (lv_at hl 2 rfl) ?_
            refine lv_iconst (v := 1) hx hb dX5_judge_55 (by decide) ?_
            refine lv_icmp_ne (tgt := 66) hx hb dX5_judge_56 (by decide) (fun c11 => ?_) (fun c11 => ?_)
            · rw [if_neg c11] at hf
              refine lv_aload_n hx hb dX5_judge_66 rfl (lv_at hl 1 rfl) ?_
              refine va_get (D := D) (ci := 5) (v := .int o3.2.2.2.2.2.2.2.2.2.2.2.1) (C := RX5) (T := TX5) (N := 33) hx hb hts inX5_judge_X5 hown hK hP 0 rfl rfl 20 (by decide) (hts (.fieldLink RX5 157 "WordScalesModel" "ended" "I") (List.mem_of_getElem? (i := 4) rfl)) (fun _ h9 => h9) rfl dX5_judge_67 ?_
              obtain rfl := Option.some.inj hf
              exact hret rfl rfl rfl hP hD hS dX5_judge_70
            · rw [if_pos c11] at hf
              refine lv_aload_n hx hb dX5_judge_59 rfl (lv_at hl 1 rfl) ?_
              refine va_get (D := D) (ci := 5) (v := .int o3.2.2.2.2.2.2.2.2.2.2.2.2.2.2.2.2.2) (C := RX5) (T := TX5) (N := 33) hx hb hts inX5_judge_X5 hown hK hP 0 rfl rfl 26 (by decide) (hts (.fieldLink RX5 170 "WordScalesModel" "badWhy" "I") (List.mem_of_getElem? (i := 3) rfl)) (fun _ h9 => h9) rfl dX5_judge_60 ?_
              refine lv_goto (tgt := 70) hx hb dX5_judge_63 (by decide) ?_
              obtain rfl := Option.some.inj hf
              exact hret rfl rfl rfl hP hD hS dX5_judge_70
          · rw [if_pos c10] at hf
            refine lv_aload_n hx hb dX5_judge_47 rfl (lv_at hl 1 rfl) ?_
            refine va_get (D := D) (ci := 5) (v := .int o3.2.2.2.2.2.2.2.2.2.2.2.2.2.2.2.2.1) (C := RX5) (T := TX5) (N := 33) hx hb hts inX5_judge_X5 hown hK hP 0 rfl rfl 25 (by decide) (hts (.fieldLink RX5 167 "WordScalesModel" "badAct" "I") (List.mem_of_getElem? (i := 2) rfl)) (fun _ h9 => h9) rfl dX5_judge_48 ?_
            refine lv_goto (tgt := 70) hx hb dX5_judge_51 (by decide) ?_
            obtain rfl := Option.some.inj hf
            exact hret rfl rfl rfl hP hD hS dX5_judge_70
        · rw [if_pos c9] at hf
          refine lv_iload_n hx hb dX5_judge_41 rfl (lv_at hl 0 rfl) ?_
          obtain rfl := Option.some.inj hf
          exact hret rfl rfl rfl hP hD hS dX5_judge_42
  · rw [if_pos c2] at hf
    refine lv_bipush (v := (-2)) hx hb dX5_judge_12 (by decide) ?_
    obtain rfl := Option.some.inj hf
    exact hret rfl rfl rfl hP hD hS dX5_judge_14
def f_X5_behind (vweight : Nat → Int32) (vkind : Nat → Int32) (vpurse : Nat → Int32) (vhas : Nat → Int32) (vpad : Nat → Int32) (vpadMany : Int32) (vact : Nat → Int32) (vwho : Nat → Int32) (vwhich : Nat → Int32) (vwhom : Nat → Int32) (vacts : Int32) (vplace : Int32) (vopenMany : Int32) (vended : Int32) (vspoken : Int32) (vheaviest : Int32) (vheaviestWeight : Int32) (vhad : Nat → Int32) (vbadAct : Int32) (vbadWhy : Int32) (p0 : Int32) (p1 : Int32) : Option (Int32 × (Nat → Int32) × (Nat → Int32) × (Nat → Int32) × (Nat → Int32) × (Nat → Int32) × (Nat → Int32) × (Nat → Int32) × Int32 × Int32 × Int32 × Int32 × Int32 × Int32 × Int32 × (Nat → Int32) × Int32 × Int32) := bd (f_X5_isSpeaker p0) (fun o1 => if o1 = 0 then (some ((-1), vweight, vpurse, vhas, vact, vwho, vwhich, vwhom, vacts, vplace, vopenMany, vended, vspoken, vheaviest, vheaviestWeight, vhad, vbadAct, vbadWhy)) else (bd (f_X5_in p1.toInt64 (0) (1)) (fun o3 => if o3 = 0 then (some ((-2), vweight, vpurse, vhas, vact, vwho, vwhich, vwhom, vacts, vplace, vopenMany, vended, vspoken, vheaviest, vheaviestWeight, vhad, vbadAct, vbadWhy)) else (ob (f_X5_refusal vweight vkind vpurse vhas vpad vpadMany vact vwho vwhich vwhom vplace vopenMany vended vspoken vheaviest vheaviestWeight vhad vbadAct vbadWhy) (fun o5 => if o5.1 = (-6) then (if p1 = 0 then (chk p0 4 (ob (f_X5_back o5.2.1 o5.2.2.1 o5.2.2.2.1 o5.2.2.2.2.2.2.2.2.2.2.2.2.2.2.2.1 (o5.2.2.1 (p0).toNatClampNeg)) (fun o11 => some (o11.1, o11.2.1, o11.2.2.1, o11.2.2.2, o5.2.2.2.2.1, o5.2.2.2.2.2.1, o5.2.2.2.2.2.2.1, o5.2.2.2.2.2.2.2.1, o5.2.2.2.2.2.2.2.2.1, o5.2.2.2.2.2.2.2.2.2.1, o5.2.2.2.2.2.2.2.2.2.2.1, o5.2.2.2.2.2.2.2.2.2.2.2.1, o5.2.2.2.2.2.2.2.2.2.2.2.2.1, o5.2.2.2.2.2.2.2.2.2.2.2.2.2.1, o5.2.2.2.2.2.2.2.2.2.2.2.2.2.2.1, o5.2.2.2.2.2.2.2.2.2.2.2.2.2.2.2.1, o5.2.2.2.2.2.2.2.2.2.2.2.2.2.2.2.2.1, o5.2.2.2.2.2.2.2.2.2.2.2.2.2.2.2.2.2)))) else (chk p0 4 (ob (f_X5_back o5.2.1 o5.2.2.1 o5.2.2.2.1 o5.2.2.2.2.2.2.2.2.2.2.2.2.2.2.2.1 (o5.2.2.2.1 (p0).toNatClampNeg)) (fun o9 => some (o9.1, o9.2.1, o9.2.2.1, o9.2.2.2, o5.2.2.2.2.1, o5.2.2.2.2.2.1, o5.2.2.2.2.2.2.1, o5.2.2.2.2.2.2.2.1, o5.2.2.2.2.2.2.2.2.1, o5.2.2.2.2.2.2.2.2.2.1, o5.2.2.2.2.2.2.2.2.2.2.1, o5.2.2.2.2.2.2.2.2.2.2.2.1, o5.2.2.2.2.2.2.2.2.2.2.2.2.1, o5.2.2.2.2.2.2.2.2.2.2.2.2.2.1, o5.2.2.2.2.2.2.2.2.2.2.2.2.2.2.1, o5.2.2.2.2.2.2.2.2.2.2.2.2.2.2.2.1, o5.2.2.2.2.2.2.2.2.2.2.2.2.2.2.2.2.1, o5.2.2.2.2.2.2.2.2.2.2.2.2.2.2.2.2.2))))) else (ob (f_X5_back o5.2.1 o5.2.2.1 o5.2.2.2.1 o5.2.2.2.2.2.2.2.2.2.2.2.2.2.2.2.1 o5.1) (fun o12 => some (o12.1, o12.2.1, o12.2.2.1, o12.2.2.2, o5.2.2.2.2.1, o5.2.2.2.2.2.1, o5.2.2.2.2.2.2.1, o5.2.2.2.2.2.2.2.1, o5.2.2.2.2.2.2.2.2.1, o5.2.2.2.2.2.2.2.2.2.1, o5.2.2.2.2.2.2.2.2.2.2.1, o5.2.2.2.2.2.2.2.2.2.2.2.1, o5.2.2.2.2.2.2.2.2.2.2.2.2.1, o5.2.2.2.2.2.2.2.2.2.2.2.2.2.1, o5.2.2.2.2.2.2.2.2.2.2.2.2.2.2.1, o5.2.2.2.2.2.2.2.2.2.2.2.2.2.2.2.1, o5.2.2.2.2.2.2.2.2.2.2.2.2.2.2.2.2.1, o5.2.2.2.2.2.2.2.2.2.2.2.2.2.2.2.2.2))))))))
theorem inX5_behind_X5 : ∀ w ∈ wsX50, w ∈ wsX5_behind := fun w h => List.mem_cons_of_mem _ (List.mem_append_right _ h)
theorem yd_X5_behind : yX5_behind.cls ≠ "java/lang/invoke/MethodHandle" ∧ yX5_behind.cls ≠ "java/lang/invoke/VarHandle" ∧ (parseMethodDescriptor yX5_behind.desc).map (fun d => d.parameters.length) = some 2 := by decide +kernel
abbrev rmX5_behind : Room := { frames := 5, cells := 0, slots := 0, locals := 111 }
set_option maxHeartbeats 4000000 in
set_option maxRecDepth 100000 in
theorem k_X5_behind (l : Launch) (D : va_G) (K : Nat → ClassId) (q : Nat → Nat) (vweight : Nat → Int32) (vkind : Nat → Int32) (vrhymes : Nat → Int32) (vpurse : Nat → Int32) (vhas : Nat → Int32) (vwishes : Nat → Int32) (vwishMany : Int32) (vsightLeft : Nat → Int32) (vsightRight : Nat → Int32) (vsightHow : Nat → Int32) (vsights : Int32) (vpad : Nat → Int32) (vpadMany : Int32) (vact : Nat → Int32) (vwho : Nat → Int32) (vwhich : Nat → Int32) (vwhom : Nat → Int32) (vacts : Int32) (vplace : Int32) (vopenMany : Int32) (vended : Int32) (vspoken : Int32) (vheaviest : Int32) (vheaviestWeight : Int32) (vhad : Nat → Int32) (vbadAct : Int32) (vbadWhy : Int32) (vbrings : Nat → Int64) (vbringsThen : Nat → Int64) (vkept : Nat → Int32) (visKept : Nat → Int32) (vkeptAt : Int32) (visWriting : Int32) (p0 : Int32) (p1 : Int32) (out : Int32 × (Nat → Int32) × (Nat → Int32) × (Nat → Int32) × (Nat → Int32) × (Nat → Int32) × (Nat → Int32) × (Nat → Int32) × Int32 × Int32 × Int32 × Int32 × Int32 × Int32 × Int32 × (Nat → Int32) × Int32 × Int32) (hf : f_X5_behind vweight vkind vpurse vhas vpad vpadMany vact vwho vwhich vwhom vacts vplace vopenMany vended vspoken vheaviest vheaviestWeight vhad vbadAct vbadWhy p0 p1 = some out) : kI l D K .int yX5_behind wsX5_behind rmX5_behind [.ref (q 0), .int p0, .int p1] (mdW K q vweight vkind vrhymes vpurse vhas vwishes vwishMany vsightLeft vsightRight vsightHow vsights vpad vpadMany vact vwho vwhich vwhom vacts vplace vopenMany vended vspoken vheaviest vheaviestWeight vhad vbadAct vbadWhy vbrings vbringsThen vkept visKept vkeptAt visWriting) out.1 (mdW K q out.2.1 vkind vrhymes out.2.2.1 out.2.2.2.1 vwishes vwishMany vsightLeft vsightRight vsightHow vsights vpad vpadMany out.2.2.2.2.1 out.2.2.2.2.2.1 out.2.2.2.2.2.2.1 out.2.2.2.2.2.2.2.1 out.2.2.2.2.2.2.2.2.1 out.2.2.2.2.2.2.2.2.2.1 out.2.2.2.2.2.2.2.2.2.2.1 out.2.2.2.2.2.2.2.2.2.2.2.1 out.2.2.2.2.2.2.2.2.2.2.2.2.1 out.2.2.2.2.2.2.2.2.2.2.2.2.2.1 out.2.2.2.2.2.2.2.2.2.2.2.2.2.2.1 out.2.2.2.2.2.2.2.2.2.2.2.2.2.2.2.1 out.2.2.2.2.2.2.2.2.2.2.2.2.2.2.2.2.1 out.2.2.2.2.2.2.2.2.2.2.2.2.2.2.2.2.2 vbrings vbringsThen vkept visKept vkeptAt visWriting) := by
  refine kI.of (cc := cX5_behind) (maxL := 4) (by decide) rfl (Nat.le_of_ble_eq_true rfl) ?_
  intro p e s m args below meth c A H0 Q ls hx hb hml hown hts hK hN hA hP hD hS hl hret
  have hown : s.vm.findClass RX5 = some m.cls := hown
  have hl : lv_has ls 4 [(0, .ref (q 0)), (1, .int p0), (2, .int p1)] := hl
  generalize hH : H0 = H at hP ⊢
  have hS : va_S A H0 H [] := by rw [← hH]; exact hS
  clear hH
  unfold f_X5_behind at hf
  refine lv_iload_n hx hb dX5_behind_0 rfl (lv_at hl 1 rfl) ?_
  obtain ⟨o1, ho1, hf⟩ := bd_el hf
  refine kc0_i (D := D) (va_runS (As := [.int p0]) (rest := []) ⟨hx, hb, hml, hown, hts⟩ ((k_X5_isSpeaker l D K p0 o1 ho1) H.size) (va_cwS 1 hts gX5_behind_X5_isSpeaker rfl rfl rfl yd_X5_isSpeaker ⟨Nat.le_of_ble_eq_true rfl, Nat.le_of_ble_eq_true rfl⟩) (kPreS va_P_nil (va_D_nil (A := fun _ => True)) hK hN) rfl rfl hl.1 rfl (lv_room (Nat.le_of_ble_eq_true rfl)) dX5_behind_1 ⟨Nat.le_of_ble_eq_true rfl, Nat.le_of_ble_eq_true rfl⟩) hP hS hA (fun hzo1 H locs hP hS => ?_)
  refine lv_if_ne (tgt := 9) hx hb dX5_behind_4 (by decide) (fun c2 => ?_) (fun c2 => ?_)
  · rw [if_neg c2] at hf
    refine lv_iload_n hx hb dX5_behind_9 rfl (lv_at hl 2 rfl) ?_
    refine lv_i2l (v := p1.toInt64) hx hb dX5_behind_10 rfl ?_
    refine lv_lconst (v := 0) hx hb dX5_behind_11 (by decide) ?_
    refine lv_lconst (v := 1) hx hb dX5_behind_12 (by decide) ?_
    obtain ⟨o3, ho3, hf⟩ := bd_el hf
    refine kc0_i (D := D) (va_runS (As := [.long p1.toInt64, .long 0, .long 1]) (rest := []) ⟨hx, hb, hml, hown, hts⟩ ((k_X5_in l D K p1.toInt64 (0) (1) o3 ho3) H.size) (va_cwS 3 hts gX5_behind_X5_in rfl rfl rfl yd_X5_in ⟨Nat.le_of_ble_eq_true rfl, Nat.le_of_ble_eq_true rfl⟩) (kPreS va_P_nil (va_D_nil (A := fun _ => True)) hK hN) rfl rfl hl.1 rfl (lv_room (Nat.le_of_ble_eq_true rfl)) dX5_behind_13 ⟨Nat.le_of_ble_eq_true rfl, Nat.le_of_ble_eq_true rfl⟩) hP hS hA (fun hzo3 H locs hP hS => ?_)
    refine lv_if_ne (tgt := 22) hx hb dX5_behind_16 (by decide) (fun c4 => ?_) (fun c4 => ?_)
    · rw [if_neg c4] at hf
      refine lv_aload_n hx hb dX5_behind_22 rfl (lv_at hl 0 rfl) ?_
      obtain ⟨o5, ho5, hf⟩ := ob_el hf
      refine kcw_i (D := D) (va_runV (As := []) (rest := []) ⟨hx, hb, hml, hown, hts⟩ ((k_X5_refusal l D K q vweight vkind vrhymes vpurse vhas vwishes vwishMany vsightLeft vsightRight vsightHow vsights vpad vpadMany vact vwho vwhich vwhom vacts vplace vopenMany vended vspoken vheaviest vheaviestWeight vhad vbadAct vbadWhy vbrings vbringsThen vkept visKept vkeptAt visWriting o5 ho5) H.size) (cwV 0 hts gX5_behind_X5_refusal rfl rfl rfl ⟨rfl, yd_X5_refusal⟩ ⟨Nat.le_of_ble_eq_true rfl, Nat.le_of_ble_eq_true rfl⟩) (kPreV (ci := 5) (q0 := 0) hP rfl rfl hP hD hK hN) rfl rfl hl.1 rfl (lv_room (Nat.le_of_ble_eq_true rfl)) dX5_behind_23 ⟨Nat.le_of_ble_eq_true rfl, Nat.le_of_ble_eq_true rfl⟩) hD hS hA (fun hzo5 H locs hP hD hS => ?_)
      have hP : va_P D vwCl (mdW K q o5.2.1 vkind vrhymes o5.2.2.1 o5.2.2.2.1 vwishes vwishMany vsightLeft vsightRight vsightHow vsights vpad vpadMany o5.2.2.2.2.1 o5.2.2.2.2.2.1 o5.2.2.2.2.2.2.1 o5.2.2.2.2.2.2.2.1 o5.2.2.2.2.2.2.2.2.1 o5.2.2.2.2.2.2.2.2.2.1 o5.2.2.2.2.2.2.2.2.2.2.1 o5.2.2.2.2.2.2.2.2.2.2.2.1 o5.2.2.2.2.2.2.2.2.2.2.2.2.1 o5.2.2.2.2.2.2.2.2.2.2.2.2.2.1 o5.2.2.2.2.2.2.2.2.2.2.2.2.2.2.1 o5.2.2.2.2.2.2.2.2.2.2.2.2.2.2.2.1 o5.2.2.2.2.2.2.2.2.2.2.2.2.2.2.2.2.1 o5.2.2.2.2.2.2.2.2.2.2.2.2.2.2.2.2.2 vbrings vbringsThen vkept visKept vkeptAt visWriting) H := hP
      have hD : va_D A (mdW K q o5.2.1 vkind vrhymes o5.2.2.1 o5.2.2.2.1 vwishes vwishMany vsightLeft vsightRight vsightHow vsights vpad vpadMany o5.2.2.2.2.1 o5.2.2.2.2.2.1 o5.2.2.2.2.2.2.1 o5.2.2.2.2.2.2.2.1 o5.2.2.2.2.2.2.2.2.1 o5.2.2.2.2.2.2.2.2.2.1 o5.2.2.2.2.2.2.2.2.2.2.1 o5.2.2.2.2.2.2.2.2.2.2.2.1 o5.2.2.2.2.2.2.2.2.2.2.2.2.1 o5.2.2.2.2.2.2.2.2.2.2.2.2.2.1 o5.2.2.2.2.2.2.2.2.2.2.2.2.2.2.1 o5.2.2.2.2.2.2.2.2.2.2.2.2.2.2.2.1 o5.2.2.2.2.2.2.2.2.2.2.2.2.2.2.2.2.1 o5.2.2.2.2.2.2.2.2.2.2.2.2.2.2.2.2.2 vbrings vbringsThen vkept visKept vkeptAt visWriting) := hD
      refine lv_istore_n (lv' := [(3, .int o5.1), (0, .ref (q 0)), (1, .int p0), (2, .int p1)]) hx hb dX5_behind_26 rfl hl (by decide) rfl (fun ls hl => ?_)
      refine lv_aload_n hx hb dX5_behind_27 rfl (lv_at hl 1 rfl) ?_
      refine lv_iload_n hx hb dX5_behind_28 rfl (lv_at hl 0 rfl) ?_
      refine lv_bipush (v := (-6)) hx hb dX5_behind_29 (by decide) ?_
      refine lv_icmp_eq (tgt := 38) hx hb dX5_behind_31 (by decide) (fun c6 => ?_) (fun c6 => ?_)
      · rw [if_pos c6] at hf
        refine lv_iload_n hx hb dX5_behind_38 rfl (lv_at hl 3 rfl) ?_
        refine lv_if_ne (tgt := 51) hx hb dX5_behind_39 (by decide) (fun c7 => ?_) (fun c7 => ?_)
        · rw [if_neg c7] at hf
          refine lv_aload_n hx hb dX5_behind_51 rfl (lv_at hl 1 rfl) ?_
          refine va_get (D := D) (ci := 5) (v := .ref (q 5)) (C := RX5) (T := TX5) (N := 33) hx hb hts inX5_behind_X5 hown hK hP 0 rfl rfl 4 (by decide) (hts (.fieldLink RX5 22 "WordScalesModel" "has" "[I") (List.mem_of_getElem? (i := 2) rfl)) (fun _ h9 => h9) rfl dX5_behind_52 ?_
          refine lv_iload_n hx hb dX5_behind_55 rfl (lv_at hl 2 rfl) ?_
          obtain ⟨v8, hf⟩ := chk_el hf
          refine va_iald (D := D) (f := o5.2.2.2.1) hx hb hK hP 5 0 rfl rfl v8 dX5_behind_56 ?_
          obtain ⟨o9, ho9, hf⟩ := ob_el hf
          refine kcw_i (D := D) (va_runV (As := [.int (o5.2.2.2.1 (p0).toNatClampNeg)]) (rest := []) ⟨hx, hb, hml, hown, hts⟩ ((k_X5_back l D K q o5.2.1 vkind vrhymes o5.2.2.1 o5.2.2.2.1 vwishes vwishMany vsightLeft vsightRight vsightHow vsights vpad vpadMany o5.2.2.2.2.1 o5.2.2.2.2.2.1 o5.2.2.2.2.2.2.1 o5.2.2.2.2.2.2.2.1 o5.2.2.2.2.2.2.2.2.1 o5.2.2.2.2.2.2.2.2.2.1 o5.2.2.2.2.2.2.2.2.2.2.1 o5.2.2.2.2.2.2.2.2.2.2.2.1 o5.2.2.2.2.2.2.2.2.2.2.2.2.1 o5.2.2.2.2.2.2.2.2.2.2.2.2.2.1 o5.2.2.2.2.2.2.2.2.2.2.2.2.2.2.1 o5.2.2.2.2.2.2.2.2.2.2.2.2.2.2.2.1 o5.2.2.2.2.2.2.2.2.2.2.2.2.2.2.2.2.1 o5.2.2.2.2.2.2.2.2.2.2.2.2.2.2.2.2.2 vbrings vbringsThen vkept visKept vkeptAt visWriting (o5.2.2.2.1 (p0).toNatClampNeg) o9 ho9) H.size) (cwV 1 hts gX5_behind_X5_back rfl rfl rfl ⟨rfl, yd_X5_back⟩ ⟨Nat.le_of_ble_eq_true rfl, Nat.le_of_ble_eq_true rfl⟩) (kPreV (ci := 5) (q0 := 0) hP rfl rfl hP hD hK hN) rfl rfl hl.1 rfl (lv_room (Nat.le_of_ble_eq_true rfl)) dX5_behind_57 ⟨Nat.le_of_ble_eq_true rfl, Nat.le_of_ble_eq_true rfl⟩) hD hS hA (fun hzo9 H locs hP hD hS => ?_)
          have hP : va_P D vwCl (mdW K q o9.2.1 vkind vrhymes o9.2.2.1 o9.2.2.2 vwishes vwishMany vsightLeft vsightRight vsightHow vsights vpad vpadMany o5.2.2.2.2.1 o5.2.2.2.2.2.1 o5.2.2.2.2.2.2.1 o5.2.2.2.2.2.2.2.1 o5.2.2.2.2.2.2.2.2.1 o5.2.2.2.2.2.2.2.2.2.1 o5.2.2.2.2.2.2.2.2.2.2.1 o5.2.2.2.2.2.2.2.2.2.2.2.1 o5.2.2.2.2.2.2.2.2.2.2.2.2.1 o5.2.2.2.2.2.2.2.2.2.2.2.2.2.1 o5.2.2.2.2.2.2.2.2.2.2.2.2.2.2.1 o5.2.2.2.2.2.2.2.2.2.2.2.2.2.2.2.1 o5.2.2.2.2.2.2.2.2.2.2.2.2.2.2.2.2.1 o5.2.2.2.2.2.2.2.2.2.2.2.2.2.2.2.2.2 vbrings vbringsThen vkept visKept vkeptAt visWriting) H := hP
          have hD : va_D A (mdW K q o9.2.1 vkind vrhymes o9.2.2.1 o9.2.2.2 vwishes vwishMany vsightLeft vsightRight vsightHow vsights vpad vpadMany o5.2.2.2.2.1 o5.2.2.2.2.2.1 o5.2.2.2.2.2.2.1 o5.2.2.2.2.2.2.2.1 o5.2.2.2.2.2.2.2.2.1 o5.2.2.2.2.2.2.2.2.2.1 o5.2.2.2.2.2.2.2.2.2.2.1 o5.2.2.2.2.2.2.2.2.2.2.2.1 o5.2.2.2.2.2.2.2.2.2.2.2.2.1 o5.2.2.2.2.2.2.2.2.2.2.2.2.2.1 o5.2.2.2.2.2.2.2.2.2.2.2.2.2.2.1 o5.2.2.2.2.2.2.2.2.2.2.2.2.2.2.2.1 o5.2.2.2.2.2.2.2.2.2.2.2.2.2.2.2.2.1 o5.2.2.2.2.2.2.2.2.2.2.2.2.2.2.2.2.2 vbrings vbringsThen vkept visKept vkeptAt visWriting) := hD
          obtain rfl := Option.some.inj hf
          exact hret rfl rfl rfl hP hD hS dX5_behind_60
        · rw [if_pos c7] at hf
          refine lv_aload_n hx hb dX5_behind_42 rfl (lv_at hl 1 rfl) ?_
          refine va_get (D := D) (ci := 5) (v := .ref (q 4)) (C := RX5) (T := TX5) (N := 33) hx hb hts inX5_behind_X5 hown hK hP 0 rfl rfl 3 (by decide) (hts (.fieldLink RX5 19 "WordScalesModel" "purse" "[I") (List.mem_of_getElem? (i := 1) rfl)) (fun _ h9 => h9) rfl dX5_behind_43 ?_
          refine lv_iload_n hx hb dX5_behind_46 rfl (lv_at hl 2 rfl) ?_
          obtain ⟨v10, hf⟩ := chk_el hf
          refine va_iald (D := D) (f := o5.2.2.1) hx hb hK hP 4 0 rfl rfl v10 dX5_behind_47 ?_
          refine lv_goto (tgt := 57) hx hb dX5_behind_48 (by decide) ?_
          obtain ⟨o11, ho11, hf⟩ := ob_el hf
          refine kcw_i (D := D) (va_runV (As := [.int (o5.2.2.1 (p0).toNatClampNeg)]) (rest := []) ⟨hx, hb, hml, hown, hts⟩ ((k_X5_back l D K q o5.2.1 vkind vrhymes o5.2.2.1 o5.2.2.2.1 vwishes vwishMany vsightLeft vsightRight vsightHow vsights vpad vpadMany o5.2.2.2.2.1 o5.2.2.2.2.2.1 o5.2.2.2.2.2.2.1 o5.2.2.2.2.2.2.2.1 o5.2.2.2.2.2.2.2.2.1 o5.2.2.2.2.2.2.2.2.2.1 o5.2.2.2.2.2.2.2.2.2.2.1 o5.2.2.2.2.2.2.2.2.2.2.2.1 o5.2.2.2.2.2.2.2.2.2.2.2.2.1 o5.2.2.2.2.2.2.2.2.2.2.2.2.2.1 o5.2.2.2.2.2.2.2.2.2.2.2.2.2.2.1 o5.2.2.2.2.2.2.2.2.2.2.2.2.2.2.2.1 o5.2.2.2.2.2.2.2.2.2.2.2.2.2.2.2.2.1 o5.2.2.2.2.2.2.2.2.2.2.2.2.2.2.2.2.2 vbrings vbringsThen vkept visKept vkeptAt visWriting (o5.2.2.1 (p0).toNatClampNeg) o11 ho11) H.size) (cwV 1 hts gX5_behind_X5_back rfl rfl rfl ⟨rfl, yd_X5_back⟩ ⟨Nat.le_of_ble_eq_true rfl, Nat.le_of_ble_eq_true rfl⟩) (kPreV (ci := 5) (q0 := 0) hP rfl rfl hP hD hK hN) rfl rfl hl.1 rfl (lv_room (Nat.le_of_ble_eq_true rfl)) dX5_behind_57 ⟨Nat.le_of_ble_eq_true rfl, Nat.le_of_ble_eq_true rfl⟩) hD hS hA (fun hzo11 H locs hP hD hS => ?_)
          have hP : va_P D vwCl (mdW K q o11.2.1 vkind vrhymes o11.2.2.1 o11.2.2.2 vwishes vwishMany vsightLeft vsightRight vsightHow vsights vpad vpadMany o5.2.2.2.2.1 o5.2.2.2.2.2.1 o5.2.2.2.2.2.2.1 o5.2.2.2.2.2.2.2.1 o5.2.2.2.2.2.2.2.2.1 o5.2.2.2.2.2.2.2.2.2.1 o5.2.2.2.2.2.2.2.2.2.2.1 o5.2.2.2.2.2.2.2.2.2.2.2.1 o5.2.2.2.2.2.2.2.2.2.2.2.2.1 o5.2.2.2.2.2.2.2.2.2.2.2.2.2.1 o5.2.2.2.2.2.2.2.2.2.2.2.2.2.2.1 o5.2.2.2.2.2.2.2.2.2.2.2.2.2.2.2.1 o5.2.2.2.2.2.2.2.2.2.2.2.2.2.2.2.2.1 o5.2.2.2.2.2.2.2.2.2.2.2.2.2.2.2.2.2 vbrings vbringsThen vkept visKept vkeptAt visWriting) H := hP
          have hD : va_D A (mdW K q o11.2.1 vkind vrhymes o11.2.2.1 o11.2.2.2 vwishes vwishMany vsightLeft vsightRight vsightHow vsights vpad vpadMany o5.2.2.2.2.1 o5.2.2.2.2.2.1 o5.2.2.2.2.2.2.1 o5.2.2.2.2.2.2.2.1 o5.2.2.2.2.2.2.2.2.1 o5.2.2.2.2.2.2.2.2.2.1 o5.2.2.2.2.2.2.2.2.2.2.1 o5.2.2.2.2.2.2.2.2.2.2.2.1 o5.2.2.2.2.2.2.2.2.2.2.2.2.1 o5.2.2.2.2.2.2.2.2.2.2.2.2.2.1 o5.2.2.2.2.2.2.2.2.2.2.2.2.2.2.1 o5.2.2.2.2.2.2.2.2.2.2.2.2.2.2.2.1 o5.2.2.2.2.2.2.2.2.2.2.2.2.2.2.2.2.1 o5.2.2.2.2.2.2.2.2.2.2.2.2.2.2.2.2.2 vbrings vbringsThen vkept visKept vkeptAt visWriting) := hD
          obtain rfl := Option.some.inj hf
          exact hret rfl rfl rfl hP hD hS dX5_behind_60
      · rw [if_neg c6] at hf
        refine lv_iload_n hx hb dX5_behind_34 rfl (lv_at hl 0 rfl) ?_
        refine lv_goto (tgt := 57) hx hb dX5_behind_35 (by decide) ?_
        obtain ⟨o12, ho12, hf⟩ := ob_el hf
        refine kcw_i (D := D) (va_runV (As := [.int o5.1]) (rest := []) ⟨hx, hb, hml, hown, hts⟩ ((k_X5_back l D K q o5.2.1 vkind vrhymes o5.2.2.1 o5.2.2.2.1 vwishes vwishMany vsightLeft vsightRight vsightHow vsights vpad vpadMany o5.2.2.2.2.1 o5.2.2.2.2.2.1 o5.2.2.2.2.2.2.1 o5.2.2.2.2.2.2.2.1 o5.2.2.2.2.2.2.2.2.1 o5.2.2.2.2.2.2.2.2.2.1 o5.2.2.2.2.2.2.2.2.2.2.1 o5.2.2.2.2.2.2.2.2.2.2.2.1 o5.2.2.2.2.2.2.2.2.2.2.2.2.1 o5.2.2.2.2.2.2.2.2.2.2.2.2.2.1 o5.2.2.2.2.2.2.2.2.2.2.2.2.2.2.1 o5.2.2.2.2.2.2.2.2.2.2.2.2.2.2.2.1 o5.2.2.2.2.2.2.2.2.2.2.2.2.2.2.2.2.1 o5.2.2.2.2.2.2.2.2.2.2.2.2.2.2.2.2.2 vbrings vbringsThen vkept visKept vkeptAt visWriting o5.1 o12 ho12) H.size) (cwV 1 hts gX5_behind_X5_back rfl rfl rfl ⟨rfl, yd_X5_back⟩ ⟨Nat.le_of_ble_eq_true rfl, Nat.le_of_ble_eq_true rfl⟩) (kPreV (ci := 5) (q0 := 0) hP rfl rfl hP hD hK hN) rfl rfl hl.1 rfl (lv_room (Nat.le_of_ble_eq_true rfl)) dX5_behind_57 ⟨Nat.le_of_ble_eq_true rfl, Nat.le_of_ble_eq_true rfl⟩) hD hS hA (fun hzo12 H locs hP hD hS => ?_)
        have hP : va_P D vwCl (mdW K q o12.2.1 vkind vrhymes o12.2.2.1 o12.2.2.2 vwishes vwishMany vsightLeft vsightRight vsightHow vsights vpad vpadMany o5.2.2.2.2.1 o5.2.2.2.2.2.1 o5.2.2.2.2.2.2.1 o5.2.2.2.2.2.2.2.1 o5.2.2.2.2.2.2.2.2.1 o5.2.2.2.2.2.2.2.2.2.1 o5.2.2.2.2.2.2.2.2.2.2.1 o5.2.2.2.2.2.2.2.2.2.2.2.1 o5.2.2.2.2.2.2.2.2.2.2.2.2.1 o5.2.2.2.2.2.2.2.2.2.2.2.2.2.1 o5.2.2.2.2.2.2.2.2.2.2.2.2.2.2.1 o5.2.2.2.2.2.2.2.2.2.2.2.2.2.2.2.1 o5.2.2.2.2.2.2.2.2.2.2.2.2.2.2.2.2.1 o5.2.2.2.2.2.2.2.2.2.2.2.2.2.2.2.2.2 vbrings vbringsThen vkept visKept vkeptAt visWriting) H := hP
        have hD : va_D A (mdW K q o12.2.1 vkind vrhymes o12.2.2.1 o12.2.2.2 vwishes vwishMany vsightLeft vsightRight vsightHow vsights vpad vpadMany o5.2.2.2.2.1 o5.2.2.2.2.2.1 o5.2.2.2.2.2.2.1 o5.2.2.2.2.2.2.2.1 o5.2.2.2.2.2.2.2.2.1 o5.2.2.2.2.2.2.2.2.2.1 o5.2.2.2.2.2.2.2.2.2.2.1 o5.2.2.2.2.2.2.2.2.2.2.2.1 o5.2.2.2.2.2.2.2.2.2.2.2.2.1 o5.2.2.2.2.2.2.2.2.2.2.2.2.2.1 o5.2.2.2.2.2.2.2.2.2.2.2.2.2.2.1 o5.2.2.2.2.2.2.2.2.2.2.2.2.2.2.2.1 o5.2.2.2.2.2.2.2.2.2.2.2.2.2.2.2.2.1 o5.2.2.2.2.2.2.2.2.2.2.2.2.2.2.2.2.2 vbrings vbringsThen vkept visKept vkeptAt visWriting) := hD
        obtain rfl := Option.some.inj hf
        exact hret rfl rfl rfl hP hD hS dX5_behind_60
    · rw [if_pos c4] at hf
      refine lv_bipush (v := (-2)) hx hb dX5_behind_19 (by decide) ?_
      obtain rfl := Option.some.inj hf
      exact hret rfl rfl rfl hP hD hS dX5_behind_21
  · rw [if_pos c2] at hf
    refine lv_iconst (v := (-1)) hx hb dX5_behind_7 (by decide) ?_
    obtain rfl := Option.some.inj hf
    exact hret rfl rfl rfl hP hD hS dX5_behind_8
def f_X5_worn (vweight : Nat → Int32) (vkind : Nat → Int32) (vpurse : Nat → Int32) (vhas : Nat → Int32) (vpad : Nat → Int32) (vpadMany : Int32) (vact : Nat → Int32) (vwho : Nat → Int32) (vwhich : Nat → Int32) (vwhom : Nat → Int32) (vacts : Int32) (vplace : Int32) (vopenMany : Int32) (vended : Int32) (vspoken : Int32) (vheaviest : Int32) (vheaviestWeight : Int32) (vhad : Nat → Int32) (vbadAct : Int32) (vbadWhy : Int32) (p0 : Int32) : Option (Int32 × (Nat → Int32) × (Nat → Int32) × (Nat → Int32) × (Nat → Int32) × (Nat → Int32) × (Nat → Int32) × (Nat → Int32) × Int32 × Int32 × Int32 × Int32 × Int32 × Int32 × Int32 × (Nat → Int32) × Int32 × Int32) := bd (f_X5_isWord p0) (fun o1 => if o1 = 0 then (some ((-1), vweight, vpurse, vhas, vact, vwho, vwhich, vwhom, vacts, vplace, vopenMany, vended, vspoken, vheaviest, vheaviestWeight, vhad, vbadAct, vbadWhy)) else (ob (f_X5_refusal vweight vkind vpurse vhas vpad vpadMany vact vwho vwhich vwhom vplace vopenMany vended vspoken vheaviest vheaviestWeight vhad vbadAct vbadWhy) (fun o3 => if o3.1 = (-6) then (chk p0 12 (ob (f_X5_back o3.2.1 o3.2.2.1 o3.2.2.2.1 o3.2.2.2.2.2.2.2.2.2.2.2.2.2.2.2.1 (o3.2.1 (p0).toNatClampNeg)) (fun o6 => some (o6.1, o6.2.1, o6.2.2.1, o6.2.2.2, o3.2.2.2.2.1, o3.2.2.2.2.2.1, o3.2.2.2.2.2.2.1, o3.2.2.2.2.2.2.2.1, o3.2.2.2.2.2.2.2.2.1, o3.2.2.2.2.2.2.2.2.2.1, o3.2.2.2.2.2.2.2.2.2.2.1, o3.2.2.2.2.2.2.2.2.2.2.2.1, o3.2.2.2.2.2.2.2.2.2.2.2.2.1, o3.2.2.2.2.2.2.2.2.2.2.2.2.2.1, o3.2.2.2.2.2.2.2.2.2.2.2.2.2.2.1, o3.2.2.2.2.2.2.2.2.2.2.2.2.2.2.2.1, o3.2.2.2.2.2.2.2.2.2.2.2.2.2.2.2.2.1, o3.2.2.2.2.2.2.2.2.2.2.2.2.2.2.2.2.2)))) else (ob (f_X5_back o3.2.1 o3.2.2.1 o3.2.2.2.1 o3.2.2.2.2.2.2.2.2.2.2.2.2.2.2.2.1 o3.1) (fun o7 => some (o7.1, o7.2.1, o7.2.2.1, o7.2.2.2, o3.2.2.2.2.1, o3.2.2.2.2.2.1, o3.2.2.2.2.2.2.1, o3.2.2.2.2.2.2.2.1, o3.2.2.2.2.2.2.2.2.1, o3.2.2.2.2.2.2.2.2.2.1, o3.2.2.2.2.2.2.2.2.2.2.1, o3.2.2.2.2.2.2.2.2.2.2.2.1, o3.2.2.2.2.2.2.2.2.2.2.2.2.1, o3.2.2.2.2.2.2.2.2.2.2.2.2.2.1, o3.2.2.2.2.2.2.2.2.2.2.2.2.2.2.1, o3.2.2.2.2.2.2.2.2.2.2.2.2.2.2.2.1, o3.2.2.2.2.2.2.2.2.2.2.2.2.2.2.2.2.1, o3.2.2.2.2.2.2.2.2.2.2.2.2.2.2.2.2.2))))))
theorem inX5_worn_X5 : ∀ w ∈ wsX50, w ∈ wsX5_worn := fun w h => List.mem_cons_of_mem _ (List.mem_append_right _ h)
theorem yd_X5_worn : yX5_worn.cls ≠ "java/lang/invoke/MethodHandle" ∧ yX5_worn.cls ≠ "java/lang/invoke/VarHandle" ∧ (parseMethodDescriptor yX5_worn.desc).map (fun d => d.parameters.length) = some 1 := by decide +kernel
abbrev rmX5_worn : Room := { frames := 5, cells := 0, slots := 0, locals := 111 }
set_option maxHeartbeats 4000000 in
set_option maxRecDepth 100000 in
theorem k_X5_worn (l : Launch) (D : va_G) (K : Nat → ClassId) (q : Nat → Nat) (vweight : Nat → Int32) (vkind : Nat → Int32) (vrhymes : Nat → Int32) (vpurse : Nat → Int32) (vhas : Nat → Int32) (vwishes : Nat → Int32) (vwishMany : Int32) (vsightLeft : Nat → Int32) (vsightRight : Nat → Int32) (vsightHow : Nat → Int32) (vsights : Int32) (vpad : Nat → Int32) (vpadMany : Int32) (vact : Nat → Int32) (vwho : Nat → Int32) (vwhich : Nat → Int32) (vwhom : Nat → Int32) (vacts : Int32) (vplace : Int32) (vopenMany : Int32) (vended : Int32) (vspoken : Int32) (vheaviest : Int32) (vheaviestWeight : Int32) (vhad : Nat → Int32) (vbadAct : Int32) (vbadWhy : Int32) (vbrings : Nat → Int64) (vbringsThen : Nat → Int64) (vkept : Nat → Int32) (visKept : Nat → Int32) (vkeptAt : Int32) (visWriting : Int32) (p0 : Int32) (out : Int32 × (Nat → Int32) × (Nat → Int32) × (Nat → Int32) × (Nat → Int32) × (Nat → Int32) × (Nat → Int32) × (Nat → Int32) × Int32 × Int32 × Int32 × Int32 × Int32 × Int32 × Int32 × (Nat → Int32) × Int32 × Int32) (hf : f_X5_worn vweight vkind vpurse vhas vpad vpadMany vact vwho vwhich vwhom vacts vplace vopenMany vended vspoken vheaviest vheaviestWeight vhad vbadAct vbadWhy p0 = some out) : kI l D K .int yX5_worn wsX5_worn rmX5_worn [.ref (q 0), .int p0] (mdW K q vweight vkind vrhymes vpurse vhas vwishes vwishMany vsightLeft vsightRight vsightHow vsights vpad vpadMany vact vwho vwhich vwhom vacts vplace vopenMany vended vspoken vheaviest vheaviestWeight vhad vbadAct vbadWhy vbrings vbringsThen vkept visKept vkeptAt visWriting) out.1 (mdW K q out.2.1 vkind vrhymes out.2.2.1 out.2.2.2.1 vwishes vwishMany vsightLeft vsightRight vsightHow vsights vpad vpadMany out.2.2.2.2.1 out.2.2.2.2.2.1 out.2.2.2.2.2.2.1 out.2.2.2.2.2.2.2.1 out.2.2.2.2.2.2.2.2.1 out.2.2.2.2.2.2.2.2.2.1 out.2.2.2.2.2.2.2.2.2.2.1 out.2.2.2.2.2.2.2.2.2.2.2.1 out.2.2.2.2.2.2.2.2.2.2.2.2.1 out.2.2.2.2.2.2.2.2.2.2.2.2.2.1 out.2.2.2.2.2.2.2.2.2.2.2.2.2.2.1 out.2.2.2.2.2.2.2.2.2.2.2.2.2.2.2.1 out.2.2.2.2.2.2.2.2.2.2.2.2.2.2.2.2.1 out.2.2.2.2.2.2.2.2.2.2.2.2.2.2.2.2.2 vbrings vbringsThen vkept visKept vkeptAt visWriting) := by
  refine kI.of (cc := cX5_worn) (maxL := 3) (by decide) rfl (Nat.le_of_ble_eq_true rfl) ?_
  intro p e s m args below meth c A H0 Q ls hx hb hml hown hts hK hN hA hP hD hS hl hret
  have hown : s.vm.findClass RX5 = some m.cls := hown
  have hl : lv_has ls 3 [(0, .ref (q 0)), (1, .int p0)] := hl
  generalize hH : H0 = H at hP ⊢
  have hS : va_S A H0 H [] := by rw [← hH]; exact hS
  clear hH
  unfold f_X5_worn at hf
  refine lv_iload_n hx hb dX5_worn_0 rfl (lv_at hl 1 rfl) ?_
  obtain ⟨o1, ho1, hf⟩ := bd_el hf
  refine kc0_i (D := D) (va_runS (As := [.int p0]) (rest := []) ⟨hx, hb, hml, hown, hts⟩ ((k_X5_isWord l D K p0 o1 ho1) H.size) (va_cwS 1 hts gX5_worn_X5_isWord rfl rfl rfl yd_X5_isWord ⟨Nat.le_of_ble_eq_true rfl, Nat.le_of_ble_eq_true rfl⟩) (kPreS va_P_nil (va_D_nil (A := fun _ => True)) hK hN) rfl rfl hl.1 rfl (lv_room (Nat.le_of_ble_eq_true rfl)) dX5_worn_1 ⟨Nat.le_of_ble_eq_true rfl, Nat.le_of_ble_eq_true rfl⟩) hP hS hA (fun hzo1 H locs hP hS => ?_)
  refine lv_if_ne (tgt := 9) hx hb dX5_worn_4 (by decide) (fun c2 => ?_) (fun c2 => ?_)
  · rw [if_neg c2] at hf
    refine lv_aload_n hx hb dX5_worn_9 rfl (lv_at hl 0 rfl) ?_
    obtain ⟨o3, ho3, hf⟩ := ob_el hf
    refine kcw_i (D := D) (va_runV (As := []) (rest := []) ⟨hx, hb, hml, hown, hts⟩ ((k_X5_refusal l D K q vweight vkind vrhymes vpurse vhas vwishes vwishMany vsightLeft vsightRight vsightHow vsights vpad vpadMany vact vwho vwhich vwhom vacts vplace vopenMany vended vspoken vheaviest vheaviestWeight vhad vbadAct vbadWhy vbrings vbringsThen vkept visKept vkeptAt visWriting o3 ho3) H.size) (cwV 0 hts gX5_worn_X5_refusal rfl rfl rfl ⟨rfl, yd_X5_refusal⟩ ⟨Nat.le_of_ble_eq_true rfl, Nat.le_of_ble_eq_true rfl⟩) (kPreV (ci := 5) (q0 := 0) hP rfl rfl hP hD hK hN) rfl rfl hl.1 rfl (lv_room (Nat.le_of_ble_eq_true rfl)) dX5_worn_10 ⟨Nat.le_of_ble_eq_true rfl, Nat.le_of_ble_eq_true rfl⟩) hD hS hA (fun hzo3 H locs hP hD hS => ?_)
    have hP : va_P D vwCl (mdW K q o3.2.1 vkind vrhymes o3.2.2.1 o3.2.2.2.1 vwishes vwishMany vsightLeft vsightRight vsightHow vsights vpad vpadMany o3.2.2.2.2.1 o3.2.2.2.2.2.1 o3.2.2.2.2.2.2.1 o3.2.2.2.2.2.2.2.1 o3.2.2.2.2.2.2.2.2.1 o3.2.2.2.2.2.2.2.2.2.1 o3.2.2.2.2.2.2.2.2.2.2.1 o3.2.2.2.2.2.2.2.2.2.2.2.1 o3.2.2.2.2.2.2.2.2.2.2.2.2.1 o3.2.2.2.2.2.2.2.2.2.2.2.2.2.1 o3.2.2.2.2.2.2.2.2.2.2.2.2.2.2.1 o3.2.2.2.2.2.2.2.2.2.2.2.2.2.2.2.1 o3.2.2.2.2.2.2.2.2.2.2.2.2.2.2.2.2.1 o3.2.2.2.2.2.2.2.2.2.2.2.2.2.2.2.2.2 vbrings vbringsThen vkept visKept vkeptAt visWriting) H := hP
    have hD : va_D A (mdW K q o3.2.1 vkind vrhymes o3.2.2.1 o3.2.2.2.1 vwishes vwishMany vsightLeft vsightRight vsightHow vsights vpad vpadMany o3.2.2.2.2.1 o3.2.2.2.2.2.1 o3.2.2.2.2.2.2.1 o3.2.2.2.2.2.2.2.1 o3.2.2.2.2.2.2.2.2.1 o3.2.2.2.2.2.2.2.2.2.1 o3.2.2.2.2.2.2.2.2.2.2.1 o3.2.2.2.2.2.2.2.2.2.2.2.1 o3.2.2.2.2.2.2.2.2.2.2.2.2.1 o3.2.2.2.2.2.2.2.2.2.2.2.2.2.1 o3.2.2.2.2.2.2.2.2.2.2.2.2.2.2.1 o3.2.2.2.2.2.2.2.2.2.2.2.2.2.2.2.1 o3.2.2.2.2.2.2.2.2.2.2.2.2.2.2.2.2.1 o3.2.2.2.2.2.2.2.2.2.2.2.2.2.2.2.2.2 vbrings vbringsThen vkept visKept vkeptAt visWriting) := hD
    refine lv_istore_n (lv' := [(2, .int o3.1), (0, .ref (q 0)), (1, .int p0)]) hx hb dX5_worn_13 rfl hl (by decide) rfl (fun ls hl => ?_)
    refine lv_aload_n hx hb dX5_worn_14 rfl (lv_at hl 1 rfl) ?_
    refine lv_iload_n hx hb dX5_worn_15 rfl (lv_at hl 0 rfl) ?_
    refine lv_bipush (v := (-6)) hx hb dX5_worn_16 (by decide) ?_
    refine lv_icmp_eq (tgt := 25) hx hb dX5_worn_18 (by decide) (fun c4 => ?_) (fun c4 => ?_)
    · rw [if_pos c4] at hf
      refine lv_aload_n hx hb dX5_worn_25 rfl (lv_at hl 1 rfl) ?_
      refine va_get (D := D) (ci := 5) (v := .ref (q 1)) (C := RX5) (T := TX5) (N := 33) hx hb hts inX5_worn_X5 hown hK hP 0 rfl rfl 0 (by decide) (hts (.fieldLink RX5 7 "WordScalesModel" "weight" "[I") (List.mem_of_getElem? (i := 1) rfl)) (fun _ h9 => h9) rfl dX5_worn_26 ?_
      refine lv_iload_n hx hb dX5_worn_29 rfl (lv_at hl 2 rfl) ?_
      obtain ⟨v5, hf⟩ := chk_el hf
      refine va_iald (D := D) (f := o3.2.1) hx hb hK hP 1 0 rfl rfl v5 dX5_worn_30 ?_
      obtain ⟨o6, ho6, hf⟩ := ob_el hf
      refine kcw_i (D := D) (va_runV (As := [.int (o3.2.1 (p0).toNatClampNeg)]) (rest := []) ⟨hx, hb, hml, hown, hts⟩ ((k_X5_back l D K q o3.2.1 vkind vrhymes o3.2.2.1 o3.2.2.2.1 vwishes vwishMany vsightLeft vsightRight vsightHow vsights vpad vpadMany o3.2.2.2.2.1 o3.2.2.2.2.2.1 o3.2.2.2.2.2.2.1 o3.2.2.2.2.2.2.2.1 o3.2.2.2.2.2.2.2.2.1 o3.2.2.2.2.2.2.2.2.2.1 o3.2.2.2.2.2.2.2.2.2.2.1 o3.2.2.2.2.2.2.2.2.2.2.2.1 o3.2.2.2.2.2.2.2.2.2.2.2.2.1 o3.2.2.2.2.2.2.2.2.2.2.2.2.2.1 o3.2.2.2.2.2.2.2.2.2.2.2.2.2.2.1 o3.2.2.2.2.2.2.2.2.2.2.2.2.2.2.2.1 o3.2.2.2.2.2.2.2.2.2.2.2.2.2.2.2.2.1 o3.2.2.2.2.2.2.2.2.2.2.2.2.2.2.2.2.2 vbrings vbringsThen vkept visKept vkeptAt visWriting (o3.2.1 (p0).toNatClampNeg) o6 ho6) H.size) (cwV 1 hts gX5_worn_X5_back rfl rfl rfl ⟨rfl, yd_X5_back⟩ ⟨Nat.le_of_ble_eq_true rfl, Nat.le_of_ble_eq_true rfl⟩) (kPreV (ci := 5) (q0 := 0) hP rfl rfl hP hD hK hN) rfl rfl hl.1 rfl (lv_room (Nat.le_of_ble_eq_true rfl)) dX5_worn_31 ⟨Nat.le_of_ble_eq_true rfl, Nat.le_of_ble_eq_true rfl⟩) hD hS hA (fun hzo6 H locs hP hD hS => ?_)
      have hP : va_P D vwCl (mdW K q o6.2.1 vkind vrhymes o6.2.2.1 o6.2.2.2 vwishes vwishMany vsightLeft vsightRight vsightHow vsights vpad vpadMany o3.2.2.2.2.1 o3.2.2.2.2.2.1 o3.2.2.2.2.2.2.1 o3.2.2.2.2.2.2.2.1 o3.2.2.2.2.2.2.2.2.1 o3.2.2.2.2.2.2.2.2.2.1 o3.2.2.2.2.2.2.2.2.2.2.1 o3.2.2.2.2.2.2.2.2.2.2.2.1 o3.2.2.2.2.2.2.2.2.2.2.2.2.1 o3.2.2.2.2.2.2.2.2.2.2.2.2.2.1 o3.2.2.2.2.2.2.2.2.2.2.2.2.2.2.1 o3.2.2.2.2.2.2.2.2.2.2.2.2.2.2.2.1 o3.2.2.2.2.2.2.2.2.2.2.2.2.2.2.2.2.1 o3.2.2.2.2.2.2.2.2.2.2.2.2.2.2.2.2.2 vbrings vbringsThen vkept visKept vkeptAt visWriting) H := hP
      have hD : va_D A (mdW K q o6.2.1 vkind vrhymes o6.2.2.1 o6.2.2.2 vwishes vwishMany vsightLeft vsightRight vsightHow vsights vpad vpadMany o3.2.2.2.2.1 o3.2.2.2.2.2.1 o3.2.2.2.2.2.2.1 o3.2.2.2.2.2.2.2.1 o3.2.2.2.2.2.2.2.2.1 o3.2.2.2.2.2.2.2.2.2.1 o3.2.2.2.2.2.2.2.2.2.2.1 o3.2.2.2.2.2.2.2.2.2.2.2.1 o3.2.2.2.2.2.2.2.2.2.2.2.2.1 o3.2.2.2.2.2.2.2.2.2.2.2.2.2.1 o3.2.2.2.2.2.2.2.2.2.2.2.2.2.2.1 o3.2.2.2.2.2.2.2.2.2.2.2.2.2.2.2.1 o3.2.2.2.2.2.2.2.2.2.2.2.2.2.2.2.2.1 o3.2.2.2.2.2.2.2.2.2.2.2.2.2.2.2.2.2 vbrings vbringsThen vkept visKept vkeptAt visWriting) := hD
      obtain rfl := Option.some.inj hf
      exact hret rfl rfl rfl hP hD hS dX5_worn_34
    · rw [if_neg c4] at hf
      refine lv_iload_n hx hb dX5_worn_21 rfl (lv_at hl 0 rfl) ?_
      refine lv_goto (tgt := 31) hx hb dX5_worn_22 (by decide) ?_
      obtain ⟨o7, ho7, hf⟩ := ob_el hf
      refine kcw_i (D := D) (va_runV (As := [.int o3.1]) (rest := []) ⟨hx, hb, hml, hown, hts⟩ ((k_X5_back l D K q o3.2.1 vkind vrhymes o3.2.2.1 o3.2.2.2.1 vwishes vwishMany vsightLeft vsightRight vsightHow vsights vpad vpadMany o3.2.2.2.2.1 o3.2.2.2.2.2.1 o3.2.2.2.2.2.2.1 o3.2.2.2.2.2.2.2.1 o3.2.2.2.2.2.2.2.2.1 o3.2.2.2.2.2.2.2.2.2.1 o3.2.2.2.2.2.2.2.2.2.2.1 o3.2.2.2.2.2.2.2.2.2.2.2.1 o3.2.2.2.2.2.2.2.2.2.2.2.2.1 o3.2.2.2.2.2.2.2.2.2.2.2.2.2.1 o3.2.2.2.2.2.2.2.2.2.2.2.2.2.2.1 o3.2.2.2.2.2.2.2.2.2.2.2.2.2.2.2.1 o3.2.2.2.2.2.2.2.2.2.2.2.2.2.2.2.2.1 o3.2.2.2.2.2.2.2.2.2.2.2.2.2.2.2.2.2 vbrings vbringsThen vkept visKept vkeptAt visWriting o3.1 o7 ho7) H.size) (cwV 1 hts gX5_worn_X5_back rfl rfl rfl ⟨rfl, yd_X5_back⟩ ⟨Nat.le_of_ble_eq_true rfl, Nat.le_of_ble_eq_true rfl⟩) (kPreV (ci := 5) (q0 := 0) hP rfl rfl hP hD hK hN) rfl rfl hl.1 rfl (lv_room (Nat.le_of_ble_eq_true rfl)) dX5_worn_31 ⟨Nat.le_of_ble_eq_true rfl, Nat.le_of_ble_eq_true rfl⟩) hD hS hA (fun hzo7 H locs hP hD hS => ?_)
      have hP : va_P D vwCl (mdW K q o7.2.1 vkind vrhymes o7.2.2.1 o7.2.2.2 vwishes vwishMany vsightLeft vsightRight vsightHow vsights vpad vpadMany o3.2.2.2.2.1 o3.2.2.2.2.2.1 o3.2.2.2.2.2.2.1 o3.2.2.2.2.2.2.2.1 o3.2.2.2.2.2.2.2.2.1 o3.2.2.2.2.2.2.2.2.2.1 o3.2.2.2.2.2.2.2.2.2.2.1 o3.2.2.2.2.2.2.2.2.2.2.2.1 o3.2.2.2.2.2.2.2.2.2.2.2.2.1 o3.2.2.2.2.2.2.2.2.2.2.2.2.2.1 o3.2.2.2.2.2.2.2.2.2.2.2.2.2.2.1 o3.2.2.2.2.2.2.2.2.2.2.2.2.2.2.2.1 o3.2.2.2.2.2.2.2.2.2.2.2.2.2.2.2.2.1 o3.2.2.2.2.2.2.2.2.2.2.2.2.2.2.2.2.2 vbrings vbringsThen vkept visKept vkeptAt visWriting) H := hP
      have hD : va_D A (mdW K q o7.2.1 vkind vrhymes o7.2.2.1 o7.2.2.2 vwishes vwishMany vsightLeft vsightRight vsightHow vsights vpad vpadMany o3.2.2.2.2.1 o3.2.2.2.2.2.1 o3.2.2.2.2.2.2.1 o3.2.2.2.2.2.2.2.1 o3.2.2.2.2.2.2.2.2.1 o3.2.2.2.2.2.2.2.2.2.1 o3.2.2.2.2.2.2.2.2.2.2.1 o3.2.2.2.2.2.2.2.2.2.2.2.1 o3.2.2.2.2.2.2.2.2.2.2.2.2.1 o3.2.2.2.2.2.2.2.2.2.2.2.2.2.1 o3.2.2.2.2.2.2.2.2.2.2.2.2.2.2.1 o3.2.2.2.2.2.2.2.2.2.2.2.2.2.2.2.1 o3.2.2.2.2.2.2.2.2.2.2.2.2.2.2.2.2.1 o3.2.2.2.2.2.2.2.2.2.2.2.2.2.2.2.2.2 vbrings vbringsThen vkept visKept vkeptAt visWriting) := hD
      obtain rfl := Option.some.inj hf
      exact hret rfl rfl rfl hP hD hS dX5_worn_34
  · rw [if_pos c2] at hf
    refine lv_iconst (v := (-1)) hx hb dX5_worn_7 (by decide) ?_
    obtain rfl := Option.some.inj hf
    exact hret rfl rfl rfl hP hD hS dX5_worn_8
def f_X5_said (vweight : Nat → Int32) (vkind : Nat → Int32) (vpurse : Nat → Int32) (vhas : Nat → Int32) (vpad : Nat → Int32) (vpadMany : Int32) (vact : Nat → Int32) (vwho : Nat → Int32) (vwhich : Nat → Int32) (vwhom : Nat → Int32) (vacts : Int32) (vplace : Int32) (vopenMany : Int32) (vended : Int32) (vspoken : Int32) (vheaviest : Int32) (vheaviestWeight : Int32) (vhad : Nat → Int32) (vbadAct : Int32) (vbadWhy : Int32) (p0 : Int32) : Option (Int32 × (Nat → Int32) × (Nat → Int32) × (Nat → Int32) × (Nat → Int32) × (Nat → Int32) × (Nat → Int32) × (Nat → Int32) × Int32 × Int32 × Int32 × Int32 × Int32 × Int32 × Int32 × (Nat → Int32) × Int32 × Int32) := bd (f_X5_in p0.toInt64 (0) (2)) (fun o1 => if o1 = 0 then (some ((-2), vweight, vpurse, vhas, vact, vwho, vwhich, vwhom, vacts, vplace, vopenMany, vended, vspoken, vheaviest, vheaviestWeight, vhad, vbadAct, vbadWhy)) else (ob (f_X5_refusal vweight vkind vpurse vhas vpad vpadMany vact vwho vwhich vwhom vplace vopenMany vended vspoken vheaviest vheaviestWeight vhad vbadAct vbadWhy) (fun o3 => ob (f_X5_back o3.2.1 o3.2.2.1 o3.2.2.2.1 o3.2.2.2.2.2.2.2.2.2.2.2.2.2.2.2.1 o3.1) (fun o4 => if o4.1 = (-6) then (if p0 = 0 then (some (o3.2.2.2.2.2.2.2.2.2.2.2.2.1, o4.2.1, o4.2.2.1, o4.2.2.2, o3.2.2.2.2.1, o3.2.2.2.2.2.1, o3.2.2.2.2.2.2.1, o3.2.2.2.2.2.2.2.1, o3.2.2.2.2.2.2.2.2.1, o3.2.2.2.2.2.2.2.2.2.1, o3.2.2.2.2.2.2.2.2.2.2.1, o3.2.2.2.2.2.2.2.2.2.2.2.1, o3.2.2.2.2.2.2.2.2.2.2.2.2.1, o3.2.2.2.2.2.2.2.2.2.2.2.2.2.1, o3.2.2.2.2.2.2.2.2.2.2.2.2.2.2.1, o3.2.2.2.2.2.2.2.2.2.2.2.2.2.2.2.1, o3.2.2.2.2.2.2.2.2.2.2.2.2.2.2.2.2.1, o3.2.2.2.2.2.2.2.2.2.2.2.2.2.2.2.2.2)) else (if p0 = 1 then (some (o3.2.2.2.2.2.2.2.2.2.2.1, o4.2.1, o4.2.2.1, o4.2.2.2, o3.2.2.2.2.1, o3.2.2.2.2.2.1, o3.2.2.2.2.2.2.1, o3.2.2.2.2.2.2.2.1, o3.2.2.2.2.2.2.2.2.1, o3.2.2.2.2.2.2.2.2.2.1, o3.2.2.2.2.2.2.2.2.2.2.1, o3.2.2.2.2.2.2.2.2.2.2.2.1, o3.2.2.2.2.2.2.2.2.2.2.2.2.1, o3.2.2.2.2.2.2.2.2.2.2.2.2.2.1, o3.2.2.2.2.2.2.2.2.2.2.2.2.2.2.1, o3.2.2.2.2.2.2.2.2.2.2.2.2.2.2.2.1, o3.2.2.2.2.2.2.2.2.2.2.2.2.2.2.2.2.1, o3.2.2.2.2.2.2.2.2.2.2.2.2.2.2.2.2.2)) else (some (o3.2.2.2.2.2.2.2.2.2.2.2.2.2.1, o4.2.1, o4.2.2.1, o4.2.2.2, o3.2.2.2.2.1, o3.2.2.2.2.2.1, o3.2.2.2.2.2.2.1, o3.2.2.2.2.2.2.2.1, o3.2.2.2.2.2.2.2.2.1, o3.2.2.2.2.2.2.2.2.2.1, o3.2.2.2.2.2.2.2.2.2.2.1, o3.2.2.2.2.2.2.2.2.2.2.2.1, o3.2.2.2.2.2.2.2.2.2.2.2.2.1, o3.2.2.2.2.2.2.2.2.2.2.2.2.2.1, o3.2.2.2.2.2.2.2.2.2.2.2.2.2.2.1, o3.2.2.2.2.2.2.2.2.2.2.2.2.2.2.2.1, o3.2.2.2.2.2.2.2.2.2.2.2.2.2.2.2.2.1, o3.2.2.2.2.2.2.2.2.2.2.2.2.2.2.2.2.2)))) else (some (o4.1, o4.2.1, o4.2.2.1, o4.2.2.2, o3.2.2.2.2.1, o3.2.2.2.2.2.1, o3.2.2.2.2.2.2.1, o3.2.2.2.2.2.2.2.1, o3.2.2.2.2.2.2.2.2.1, o3.2.2.2.2.2.2.2.2.2.1, o3.2.2.2.2.2.2.2.2.2.2.1, o3.2.2.2.2.2.2.2.2.2.2.2.1, o3.2.2.2.2.2.2.2.2.2.2.2.2.1, o3.2.2.2.2.2.2.2.2.2.2.2.2.2.1, o3.2.2.2.2.2.2.2.2.2.2.2.2.2.2.1, o3.2.2.2.2.2.2.2.2.2.2.2.2.2.2.2.1, o3.2.2.2.2.2.2.2.2.2.2.2.2.2.2.2.2.1, o3.2.2.2.2.2.2.2.2.2.2.2.2.2.2.2.2.2))))))
theorem inX5_said_X5 : ∀ w ∈ wsX50, w ∈ wsX5_said := fun w h => List.mem_cons_of_mem _ (List.mem_append_right _ h)
theorem yd_X5_said : yX5_said.cls ≠ "java/lang/invoke/MethodHandle" ∧ yX5_said.cls ≠ "java/lang/invoke/VarHandle" ∧ (parseMethodDescriptor yX5_said.desc).map (fun d => d.parameters.length) = some 1 := by decide +kernel
abbrev rmX5_said : Room := { frames := 5, cells := 0, slots := 0, locals := 111 }
set_option maxHeartbeats 4000000 in
set_option maxRecDepth 100000 in
theorem k_X5_said (l : Launch) (D : va_G) (K : Nat → ClassId) (q : Nat → Nat) (vweight : Nat → Int32) (vkind : Nat → Int32) (vrhymes : Nat → Int32) (vpurse : Nat → Int32) (vhas : Nat → Int32) (vwishes : Nat → Int32) (vwishMany : Int32) (vsightLeft : Nat → Int32) (vsightRight : Nat → Int32) (vsightHow : Nat → Int32) (vsights : Int32) (vpad : Nat → Int32) (vpadMany : Int32) (vact : Nat → Int32) (vwho : Nat → Int32) (vwhich : Nat → Int32) (vwhom : Nat → Int32) (vacts : Int32) (vplace : Int32) (vopenMany : Int32) (vended : Int32) (vspoken : Int32) (vheaviest : Int32) (vheaviestWeight : Int32) (vhad : Nat → Int32) (vbadAct : Int32) (vbadWhy : Int32) (vbrings : Nat → Int64) (vbringsThen : Nat → Int64) (vkept : Nat → Int32) (visKept : Nat → Int32) (vkeptAt : Int32) (visWriting : Int32) (p0 : Int32) (out : Int32 × (Nat → Int32) × (Nat → Int32) × (Nat → Int32) × (Nat → Int32) × (Nat → Int32) × (Nat → Int32) × (Nat → Int32) × Int32 × Int32 × Int32 × Int32 × Int32 × Int32 × Int32 × (Nat → Int32) × Int32 × Int32) (hf : f_X5_said vweight vkind vpurse vhas vpad vpadMany vact vwho vwhich vwhom vacts vplace vopenMany vended vspoken vheaviest vheaviestWeight vhad vbadAct vbadWhy p0 = some out) : kI l D K .int yX5_said wsX5_said rmX5_said [.ref (q 0), .int p0] (mdW K q vweight vkind vrhymes vpurse vhas vwishes vwishMany vsightLeft vsightRight vsightHow vsights vpad vpadMany vact vwho vwhich vwhom vacts vplace vopenMany vended vspoken vheaviest vheaviestWeight vhad vbadAct vbadWhy vbrings vbringsThen vkept visKept vkeptAt visWriting) out.1 (mdW K q out.2.1 vkind vrhymes out.2.2.1 out.2.2.2.1 vwishes vwishMany vsightLeft vsightRight vsightHow vsights vpad vpadMany out.2.2.2.2.1 out.2.2.2.2.2.1 out.2.2.2.2.2.2.1 out.2.2.2.2.2.2.2.1 out.2.2.2.2.2.2.2.2.1 out.2.2.2.2.2.2.2.2.2.1 out.2.2.2.2.2.2.2.2.2.2.1 out.2.2.2.2.2.2.2.2.2.2.2.1 out.2.2.2.2.2.2.2.2.2.2.2.2.1 out.2.2.2.2.2.2.2.2.2.2.2.2.2.1 out.2.2.2.2.2.2.2.2.2.2.2.2.2.2.1 out.2.2.2.2.2.2.2.2.2.2.2.2.2.2.2.1 out.2.2.2.2.2.2.2.2.2.2.2.2.2.2.2.2.1 out.2.2.2.2.2.2.2.2.2.2.2.2.2.2.2.2.2 vbrings vbringsThen vkept visKept vkeptAt visWriting) := by
  refine kI.of (cc := cX5_said) (maxL := 3) (by decide) rfl (Nat.le_of_ble_eq_true rfl) ?_
  intro p e s m args below meth c A H0 Q ls hx hb hml hown hts hK hN hA hP hD hS hl hret
  have hown : s.vm.findClass RX5 = some m.cls := hown
  have hl : lv_has ls 3 [(0, .ref (q 0)), (1, .int p0)] := hl
  generalize hH : H0 = H at hP ⊢
  have hS : va_S A H0 H [] := by rw [← hH]; exact hS
  clear hH
  unfold f_X5_said at hf
  refine lv_iload_n hx hb dX5_said_0 rfl (lv_at hl 1 rfl) ?_
  refine lv_i2l (v := p0.toInt64) hx hb dX5_said_1 rfl ?_
  refine lv_lconst (v := 0) hx hb dX5_said_2 (by decide) ?_
  refine lv_ldc2 hx hb hown (hts (.constantLong RX5 83 (2)) (List.mem_of_getElem? (i := 1) rfl)) dX5_said_3 ?_
  obtain ⟨o1, ho1, hf⟩ := bd_el hf
  refine kc0_i (D := D) (va_runS (As := [.long p0.toInt64, .long 0, .long 2]) (rest := []) ⟨hx, hb, hml, hown, hts⟩ ((k_X5_in l D K p0.toInt64 (0) (2) o1 ho1) H.size) (va_cwS 3 hts gX5_said_X5_in rfl rfl rfl yd_X5_in ⟨Nat.le_of_ble_eq_true rfl, Nat.le_of_ble_eq_true rfl⟩) (kPreS va_P_nil (va_D_nil (A := fun _ => True)) hK hN) rfl rfl hl.1 rfl (lv_room (Nat.le_of_ble_eq_true rfl)) dX5_said_6 ⟨Nat.le_of_ble_eq_true rfl, Nat.le_of_ble_eq_true rfl⟩) hP hS hA (fun hzo1 H locs hP hS => ?_)
  refine lv_if_ne (tgt := 15) hx hb dX5_said_9 (by decide) (fun c2 => ?_) (fun c2 => ?_)
  · rw [if_neg c2] at hf
    refine lv_aload_n hx hb dX5_said_15 rfl (lv_at hl 0 rfl) ?_
    refine lv_aload_n hx hb dX5_said_16 rfl (lv_at hl 0 rfl) ?_
    obtain ⟨o3, ho3, hf⟩ := ob_el hf
    refine kcw_i (D := D) (va_runV (As := []) (rest := [.ref (q 0)]) ⟨hx, hb, hml, hown, hts⟩ ((k_X5_refusal l D K q vweight vkind vrhymes vpurse vhas vwishes vwishMany vsightLeft vsightRight vsightHow vsights vpad vpadMany vact vwho vwhich vwhom vacts vplace vopenMany vended vspoken vheaviest vheaviestWeight vhad vbadAct vbadWhy vbrings vbringsThen vkept visKept vkeptAt visWriting o3 ho3) H.size) (cwV 0 hts gX5_said_X5_refusal rfl rfl rfl ⟨rfl, yd_X5_refusal⟩ ⟨Nat.le_of_ble_eq_true rfl, Nat.le_of_ble_eq_true rfl⟩) (kPreV (ci := 5) (q0 := 0) hP rfl rfl hP hD hK hN) rfl rfl hl.1 rfl (lv_room (Nat.le_of_ble_eq_true rfl)) dX5_said_17 ⟨Nat.le_of_ble_eq_true rfl, Nat.le_of_ble_eq_true rfl⟩) hD hS hA (fun hzo3 H locs hP hD hS => ?_)
    have hP : va_P D vwCl (mdW K q o3.2.1 vkind vrhymes o3.2.2.1 o3.2.2.2.1 vwishes vwishMany vsightLeft vsightRight vsightHow vsights vpad vpadMany o3.2.2.2.2.1 o3.2.2.2.2.2.1 o3.2.2.2.2.2.2.1 o3.2.2.2.2.2.2.2.1 o3.2.2.2.2.2.2.2.2.1 o3.2.2.2.2.2.2.2.2.2.1 o3.2.2.2.2.2.2.2.2.2.2.1 o3.2.2.2.2.2.2.2.2.2.2.2.1 o3.2.2.2.2.2.2.2.2.2.2.2.2.1 o3.2.2.2.2.2.2.2.2.2.2.2.2.2.1 o3.2.2.2.2.2.2.2.2.2.2.2.2.2.2.1 o3.2.2.2.2.2.2.2.2.2.2.2.2.2.2.2.1 o3.2.2.2.2.2.2.2.2.2.2.2.2.2.2.2.2.1 o3.2.2.2.2.2.2.2.2.2.2.2.2.2.2.2.2.2 vbrings vbringsThen vkept visKept vkeptAt visWriting) H := hP
    have hD : va_D A (mdW K q o3.2.1 vkind vrhymes o3.2.2.1 o3.2.2.2.1 vwishes vwishMany vsightLeft vsightRight vsightHow vsights vpad vpadMany o3.2.2.2.2.1 o3.2.2.2.2.2.1 o3.2.2.2.2.2.2.1 o3.2.2.2.2.2.2.2.1 o3.2.2.2.2.2.2.2.2.1 o3.2.2.2.2.2.2.2.2.2.1 o3.2.2.2.2.2.2.2.2.2.2.1 o3.2.2.2.2.2.2.2.2.2.2.2.1 o3.2.2.2.2.2.2.2.2.2.2.2.2.1 o3.2.2.2.2.2.2.2.2.2.2.2.2.2.1 o3.2.2.2.2.2.2.2.2.2.2.2.2.2.2.1 o3.2.2.2.2.2.2.2.2.2.2.2.2.2.2.2.1 o3.2.2.2.2.2.2.2.2.2.2.2.2.2.2.2.2.1 o3.2.2.2.2.2.2.2.2.2.2.2.2.2.2.2.2.2 vbrings vbringsThen vkept visKept vkeptAt visWriting) := hD
    obtain ⟨o4, ho4, hf⟩ := ob_el hf
    refine kcw_i (D := D) (va_runV (As := [.int o3.1]) (rest := []) ⟨hx, hb, hml, hown, hts⟩ ((k_X5_back l D K q o3.2.1 vkind vrhymes o3.2.2.1 o3.2.2.2.1 vwishes vwishMany vsightLeft vsightRight vsightHow vsights vpad vpadMany o3.2.2.2.2.1 o3.2.2.2.2.2.1 o3.2.2.2.2.2.2.1 o3.2.2.2.2.2.2.2.1 o3.2.2.2.2.2.2.2.2.1 o3.2.2.2.2.2.2.2.2.2.1 o3.2.2.2.2.2.2.2.2.2.2.1 o3.2.2.2.2.2.2.2.2.2.2.2.1 o3.2.2.2.2.2.2.2.2.2.2.2.2.1 o3.2.2.2.2.2.2.2.2.2.2.2.2.2.1 o3.2.2.2.2.2.2.2.2.2.2.2.2.2.2.1 o3.2.2.2.2.2.2.2.2.2.2.2.2.2.2.2.1 o3.2.2.2.2.2.2.2.2.2.2.2.2.2.2.2.2.1 o3.2.2.2.2.2.2.2.2.2.2.2.2.2.2.2.2.2 vbrings vbringsThen vkept visKept vkeptAt visWriting o3.1 o4 ho4) H.size) (cwV 1 hts gX5_said_X5_back rfl rfl rfl ⟨rfl, yd_X5_back⟩ ⟨Nat.le_of_ble_eq_true rfl, Nat.le_of_ble_eq_true rfl⟩) (kPreV (ci := 5) (q0 := 0) hP rfl rfl hP hD hK hN) rfl rfl hl.1 rfl (lv_room (Nat.le_of_ble_eq_true rfl)) dX5_said_20 ⟨Nat.le_of_ble_eq_true rfl, Nat.le_of_ble_eq_true rfl⟩) hD hS hA (fun hzo4 H locs hP hD hS => ?_)
    have hP : va_P D vwCl (mdW K q o4.2.1 vkind vrhymes o4.2.2.1 o4.2.2.2 vwishes vwishMany vsightLeft vsightRight vsightHow vsights vpad vpadMany o3.2.2.2.2.1 o3.2.2.2.2.2.1 o3.2.2.2.2.2.2.1 o3.2.2.2.2.2.2.2.1 o3.2.2.2.2.2.2.2.2.1 o3.2.2.2.2.2.2.2.2.2.1 o3.2.2.2.2.2.2.2.2.2.2.1 o3.2.2.2.2.2.2.2.2.2.2.2.1 o3.2.2.2.2.2.2.2.2.2.2.2.2.1 o3.2.2.2.2.2.2.2.2.2.2.2.2.2.1 o3.2.2.2.2.2.2.2.2.2.2.2.2.2.2.1 o3.2.2.2.2.2.2.2.2.2.2.2.2.2.2.2.1 o3.2.2.2.2.2.2.2.2.2.2.2.2.2.2.2.2.1 o3.2.2.2.2.2.2.2.2.2.2.2.2.2.2.2.2.2 vbrings vbringsThen vkept visKept vkeptAt visWriting) H := hP
    have hD : va_D A (mdW K q o4.2.1 vkind vrhymes o4.2.2.1 o4.2.2.2 vwishes vwishMany vsightLeft vsightRight vsightHow vsights vpad vpadMany o3.2.2.2.2.1 o3.2.2.2.2.2.1 o3.2.2.2.2.2.2.1 o3.2.2.2.2.2.2.2.1 o3.2.2.2.2.2.2.2.2.1 o3.2.2.2.2.2.2.2.2.2.1 o3.2.2.2.2.2.2.2.2.2.2.1 o3.2.2.2.2.2.2.2.2.2.2.2.1 o3.2.2.2.2.2.2.2.2.2.2.2.2.1 o3.2.2.2.2.2.2.2.2.2.2.2.2.2.1 o3.2.2.2.2.2.2.2.2.2.2.2.2.2.2.1 o3.2.2.2.2.2.2.2.2.2.2.2.2.2.2.2.1 o3.2.2.2.2.2.2.2.2.2.2.2.2.2.2.2.2.1 o3.2.2.2.2.2.2.2.2.2.2.2.2.2.2.2.2.2 vbrings vbringsThen vkept visKept vkeptAt visWriting) := hD
    refine lv_istore_n (lv' := [(2, .int o4.1), (0, .ref (q 0)), (1, .int p0)]) hx hb dX5_said_23 rfl hl (by decide) rfl (fun ls hl => ?_)
    refine lv_iload_n hx hb dX5_said_24 rfl (lv_at hl 0 rfl) ?_
    refine lv_bipush (v := (-6)) hx hb dX5_said_25 (by decide) ?_
    refine lv_icmp_eq (tgt := 34) hx hb dX5_said_27 (by decide) (fun c5 => ?_) (fun c5 => ?_)
    · rw [if_pos c5] at hf
      refine lv_iload_n hx hb dX5_said_34 rfl (lv_at hl 2 rfl) ?_
      refine lv_if_ne (tgt := 45) hx hb dX5_said_35 (by decide) (fun c6 => ?_) (fun c6 => ?_)
      · rw [if_neg c6] at hf
        refine lv_iload_n hx hb dX5_said_45 rfl (lv_at hl 2 rfl) ?_
        refine lv_iconst (v := 1) hx hb dX5_said_46 (by decide) ?_
        refine lv_icmp_ne (tgt := 57) hx hb dX5_said_47 (by decide) (fun c7 => ?_) (fun c7 => ?_)
        · rw [if_neg c7] at hf
          refine lv_aload_n hx hb dX5_said_57 rfl (lv_at hl 1 rfl) ?_
          refine va_get (D := D) (ci := 5) (v := .int o3.2.2.2.2.2.2.2.2.2.2.2.2.2.1) (C := RX5) (T := TX5) (N := 33) hx hb hts inX5_said_X5 hown hK hP 0 rfl rfl 22 (by decide) (hts (.fieldLink RX5 151 "WordScalesModel" "heaviest" "I") (List.mem_of_getElem? (i := 4) rfl)) (fun _ h9 => h9) rfl dX5_said_58 ?_
          obtain rfl := Option.some.inj hf
          exact hret rfl rfl rfl hP hD hS dX5_said_61
        · rw [if_pos c7] at hf
          refine lv_aload_n hx hb dX5_said_50 rfl (lv_at hl 1 rfl) ?_
          refine va_get (D := D) (ci := 5) (v := .int o3.2.2.2.2.2.2.2.2.2.2.1) (C := RX5) (T := TX5) (N := 33) hx hb hts inX5_said_X5 hown hK hP 0 rfl rfl 19 (by decide) (hts (.fieldLink RX5 145 "WordScalesModel" "openMany" "I") (List.mem_of_getElem? (i := 3) rfl)) (fun _ h9 => h9) rfl dX5_said_51 ?_
          refine lv_goto (tgt := 61) hx hb dX5_said_54 (by decide) ?_
          obtain rfl := Option.some.inj hf
          exact hret rfl rfl rfl hP hD hS dX5_said_61
      · rw [if_pos c6] at hf
        refine lv_aload_n hx hb dX5_said_38 rfl (lv_at hl 1 rfl) ?_
        refine va_get (D := D) (ci := 5) (v := .int o3.2.2.2.2.2.2.2.2.2.2.2.2.1) (C := RX5) (T := TX5) (N := 33) hx hb hts inX5_said_X5 hown hK hP 0 rfl rfl 21 (by decide) (hts (.fieldLink RX5 142 "WordScalesModel" "spoken" "I") (List.mem_of_getElem? (i := 2) rfl)) (fun _ h9 => h9) rfl dX5_said_39 ?_
        refine lv_goto (tgt := 61) hx hb dX5_said_42 (by decide) ?_
        obtain rfl := Option.some.inj hf
        exact hret rfl rfl rfl hP hD hS dX5_said_61
    · rw [if_neg c5] at hf
      refine lv_iload_n hx hb dX5_said_30 rfl (lv_at hl 0 rfl) ?_
      refine lv_goto (tgt := 61) hx hb dX5_said_31 (by decide) ?_
      obtain rfl := Option.some.inj hf
      exact hret rfl rfl rfl hP hD hS dX5_said_61
  · rw [if_pos c2] at hf
    refine lv_bipush (v := (-2)) hx hb dX5_said_12 (by decide) ?_
    obtain rfl := Option.some.inj hf
    exact hret rfl rfl rfl hP hD hS dX5_said_14
def f_X5_done (vweight : Nat → Int32) (vkind : Nat → Int32) (vpurse : Nat → Int32) (vhas : Nat → Int32) (vpad : Nat → Int32) (vpadMany : Int32) (vact : Nat → Int32) (vwho : Nat → Int32) (vwhich : Nat → Int32) (vwhom : Nat → Int32) (vplace : Int32) (vopenMany : Int32) (vended : Int32) (vspoken : Int32) (vheaviest : Int32) (vheaviestWeight : Int32) (vhad : Nat → Int32) (vbadAct : Int32) (vbadWhy : Int32) : Option (Int32 × (Nat → Int32) × (Nat → Int32) × (Nat → Int32) × Int32 × (Nat → Int32) × (Nat → Int32) × (Nat → Int32) × (Nat → Int32) × Int32 × Int32 × Int32 × Int32 × Int32 × Int32 × Int32 × (Nat → Int32) × Int32 × Int32) := ob (f_X5_refusal vweight vkind vpurse vhas vpad vpadMany vact vwho vwhich vwhom vplace vopenMany vended vspoken vheaviest vheaviestWeight vhad vbadAct vbadWhy) (fun o1 => if o1.1 = (-6) then (some (o1.2.2.2.2.2.2.2.2.1, o1.2.1, o1.2.2.1, o1.2.2.2.1, 0, o1.2.2.2.2.1, o1.2.2.2.2.2.1, o1.2.2.2.2.2.2.1, o1.2.2.2.2.2.2.2.1, o1.2.2.2.2.2.2.2.2.1, o1.2.2.2.2.2.2.2.2.2.1, o1.2.2.2.2.2.2.2.2.2.2.1, o1.2.2.2.2.2.2.2.2.2.2.2.1, o1.2.2.2.2.2.2.2.2.2.2.2.2.1, o1.2.2.2.2.2.2.2.2.2.2.2.2.2.1, o1.2.2.2.2.2.2.2.2.2.2.2.2.2.2.1, o1.2.2.2.2.2.2.2.2.2.2.2.2.2.2.2.1, o1.2.2.2.2.2.2.2.2.2.2.2.2.2.2.2.2.1, o1.2.2.2.2.2.2.2.2.2.2.2.2.2.2.2.2.2)) else (ob (f_X5_back o1.2.1 o1.2.2.1 o1.2.2.2.1 o1.2.2.2.2.2.2.2.2.2.2.2.2.2.2.2.1 o1.1) (fun o3 => some (o3.1, o3.2.1, o3.2.2.1, o3.2.2.2, vpadMany, o1.2.2.2.2.1, o1.2.2.2.2.2.1, o1.2.2.2.2.2.2.1, o1.2.2.2.2.2.2.2.1, o1.2.2.2.2.2.2.2.2.1, o1.2.2.2.2.2.2.2.2.2.1, o1.2.2.2.2.2.2.2.2.2.2.1, o1.2.2.2.2.2.2.2.2.2.2.2.1, o1.2.2.2.2.2.2.2.2.2.2.2.2.1, o1.2.2.2.2.2.2.2.2.2.2.2.2.2.1, o1.2.2.2.2.2.2.2.2.2.2.2.2.2.2.1, o1.2.2.2.2.2.2.2.2.2.2.2.2.2.2.2.1, o1.2.2.2.2.2.2.2.2.2.2.2.2.2.2.2.2.1, o1.2.2.2.2.2.2.2.2.2.2.2.2.2.2.2.2.2))))
theorem inX5_done_X5 : ∀ w ∈ wsX50, w ∈ wsX5_done := fun w h => List.mem_cons_of_mem _ (List.mem_append_right _ h)
theorem yd_X5_done : yX5_done.cls ≠ "java/lang/invoke/MethodHandle" ∧ yX5_done.cls ≠ "java/lang/invoke/VarHandle" ∧ (parseMethodDescriptor yX5_done.desc).map (fun d => d.parameters.length) = some 0 := by decide +kernel
abbrev rmX5_done : Room := { frames := 5, cells := 0, slots := 0, locals := 111 }
set_option maxHeartbeats 4000000 in
set_option maxRecDepth 100000 in
theorem k_X5_done (l : Launch) (D : va_G) (K : Nat → ClassId) (q : Nat → Nat) (vweight : Nat → Int32) (vkind : Nat → Int32) (vrhymes : Nat → Int32) (vpurse : Nat → Int32) (vhas : Nat → Int32) (vwishes : Nat → Int32) (vwishMany : Int32) (vsightLeft : Nat → Int32) (vsightRight : Nat → Int32) (vsightHow : Nat → Int32) (vsights : Int32) (vpad : Nat → Int32) (vpadMany : Int32) (vact : Nat → Int32) (vwho : Nat → Int32) (vwhich : Nat → Int32) (vwhom : Nat → Int32) (vacts : Int32) (vplace : Int32) (vopenMany : Int32) (vended : Int32) (vspoken : Int32) (vheaviest : Int32) (vheaviestWeight : Int32) (vhad : Nat → Int32) (vbadAct : Int32) (vbadWhy : Int32) (vbrings : Nat → Int64) (vbringsThen : Nat → Int64) (vkept : Nat → Int32) (visKept : Nat → Int32) (vkeptAt : Int32) (visWriting : Int32) (out : Int32 × (Nat → Int32) × (Nat → Int32) × (Nat → Int32) × Int32 × (Nat → Int32) × (Nat → Int32) × (Nat → Int32) × (Nat → Int32) × Int32 × Int32 × Int32 × Int32 × Int32 × Int32 × Int32 × (Nat → Int32) × Int32 × Int32) (hf : f_X5_done vweight vkind vpurse vhas vpad vpadMany vact vwho vwhich vwhom vplace vopenMany vended vspoken vheaviest vheaviestWeight vhad vbadAct vbadWhy = some out) : kI l D K .int yX5_done wsX5_done rmX5_done [.ref (q 0)] (mdW K q vweight vkind vrhymes vpurse vhas vwishes vwishMany vsightLeft vsightRight vsightHow vsights vpad vpadMany vact vwho vwhich vwhom vacts vplace vopenMany vended vspoken vheaviest vheaviestWeight vhad vbadAct vbadWhy vbrings vbringsThen vkept visKept vkeptAt visWriting) out.1 (mdW K q out.2.1 vkind vrhymes out.2.2.1 out.2.2.2.1 vwishes vwishMany vsightLeft vsightRight vsightHow vsights vpad out.2.2.2.2.1 out.2.2.2.2.2.1 out.2.2.2.2.2.2.1 out.2.2.2.2.2.2.2.1 out.2.2.2.2.2.2.2.2.1 out.2.2.2.2.2.2.2.2.2.1 out.2.2.2.2.2.2.2.2.2.2.1 out.2.2.2.2.2.2.2.2.2.2.2.1 out.2.2.2.2.2.2.2.2.2.2.2.2.1 out.2.2.2.2.2.2.2.2.2.2.2.2.2.1 out.2.2.2.2.2.2.2.2.2.2.2.2.2.2.1 out.2.2.2.2.2.2.2.2.2.2.2.2.2.2.2.1 out.2.2.2.2.2.2.2.2.2.2.2.2.2.2.2.2.1 out.2.2.2.2.2.2.2.2.2.2.2.2.2.2.2.2.2.1 out.2.2.2.2.2.2.2.2.2.2.2.2.2.2.2.2.2.2 vbrings vbringsThen vkept visKept vkeptAt visWriting) := by
  refine kI.of (cc := cX5_done) (maxL := 2) (by decide) rfl (Nat.le_of_ble_eq_true rfl) ?_
  intro p e s m args below meth c A H0 Q ls hx hb hml hown hts hK hN hA hP hD hS hl hret
  have hown : s.vm.findClass RX5 = some m.cls := hown
  have hl : lv_has ls 2 [(0, .ref (q 0))] := hl
  generalize hH : H0 = H at hP ⊢
  have hS : va_S A H0 H [] := by rw [← hH]; exact hS
  clear hH
  unfold f_X5_done at hf
  refine lv_aload_n hx hb dX5_done_0 rfl (lv_at hl 0 rfl) ?_
  obtain ⟨o1, ho1, hf⟩ := ob_el hf
  refine kcw_i (D := D) (va_runV (As := []) (rest := []) ⟨hx, hb, hml, hown, hts⟩ ((k_X5_refusal l D K q vweight vkind vrhymes vpurse vhas vwishes vwishMany vsightLeft vsightRight vsightHow vsights vpad vpadMany vact vwho vwhich vwhom vacts vplace vopenMany vended vspoken vheaviest vheaviestWeight vhad vbadAct vbadWhy vbrings vbringsThen vkept visKept vkeptAt visWriting o1 ho1) H.size) (cwV 0 hts gX5_done_X5_refusal rfl rfl rfl ⟨rfl, yd_X5_refusal⟩ ⟨Nat.le_of_ble_eq_true rfl, Nat.le_of_ble_eq_true rfl⟩) (kPreV (ci := 5) (q0 := 0) hP rfl rfl hP hD hK hN) rfl rfl hl.1 rfl (lv_room (Nat.le_of_ble_eq_true rfl)) dX5_done_1 ⟨Nat.le_of_ble_eq_true rfl, Nat.le_of_ble_eq_true rfl⟩) hD hS hA (fun hzo1 H locs hP hD hS => ?_)
  have hP : va_P D vwCl (mdW K q o1.2.1 vkind vrhymes o1.2.2.1 o1.2.2.2.1 vwishes vwishMany vsightLeft vsightRight vsightHow vsights vpad vpadMany o1.2.2.2.2.1 o1.2.2.2.2.2.1 o1.2.2.2.2.2.2.1 o1.2.2.2.2.2.2.2.1 o1.2.2.2.2.2.2.2.2.1 o1.2.2.2.2.2.2.2.2.2.1 o1.2.2.2.2.2.2.2.2.2.2.1 o1.2.2.2.2.2.2.2.2.2.2.2.1 o1.2.2.2.2.2.2.2.2.2.2.2.2.1 o1.2.2.2.2.2.2.2.2.2.2.2.2.2.1 o1.2.2.2.2.2.2.2.2.2.2.2.2.2.2.1 o1.2.2.2.2.2.2.2.2.2.2.2.2.2.2.2.1 o1.2.2.2.2.2.2.2.2.2.2.2.2.2.2.2.2.1 o1.2.2.2.2.2.2.2.2.2.2.2.2.2.2.2.2.2 vbrings vbringsThen vkept visKept vkeptAt visWriting) H := hP
  have hD : va_D A (mdW K q o1.2.1 vkind vrhymes o1.2.2.1 o1.2.2.2.1 vwishes vwishMany vsightLeft vsightRight vsightHow vsights vpad vpadMany o1.2.2.2.2.1 o1.2.2.2.2.2.1 o1.2.2.2.2.2.2.1 o1.2.2.2.2.2.2.2.1 o1.2.2.2.2.2.2.2.2.1 o1.2.2.2.2.2.2.2.2.2.1 o1.2.2.2.2.2.2.2.2.2.2.1 o1.2.2.2.2.2.2.2.2.2.2.2.1 o1.2.2.2.2.2.2.2.2.2.2.2.2.1 o1.2.2.2.2.2.2.2.2.2.2.2.2.2.1 o1.2.2.2.2.2.2.2.2.2.2.2.2.2.2.1 o1.2.2.2.2.2.2.2.2.2.2.2.2.2.2.2.1 o1.2.2.2.2.2.2.2.2.2.2.2.2.2.2.2.2.1 o1.2.2.2.2.2.2.2.2.2.2.2.2.2.2.2.2.2 vbrings vbringsThen vkept visKept vkeptAt visWriting) := hD
  refine lv_istore_n (lv' := [(1, .int o1.1), (0, .ref (q 0))]) hx hb dX5_done_4 rfl hl (by decide) rfl (fun ls hl => ?_)
  refine lv_iload_n hx hb dX5_done_5 rfl (lv_at hl 0 rfl) ?_
  refine lv_bipush (v := (-6)) hx hb dX5_done_6 (by decide) ?_
  refine lv_icmp_eq (tgt := 17) hx hb dX5_done_8 (by decide) (fun c2 => ?_) (fun c2 => ?_)
  · rw [if_pos c2] at hf
    refine lv_aload_n hx hb dX5_done_17 rfl (lv_at hl 1 rfl) ?_
    refine lv_iconst (v := 0) hx hb dX5_done_18 (by decide) ?_
    refine va_put (D := D) (ci := 5) (v := .int 0) (ty := .int) (C := RX5) (T := TX5) (N := 33) hx hb hts inX5_done_X5 tyX5 tyX5_ok nmX5 hown hK hP hD hS 0 rfl rfl 12 (by decide) (hts (.fieldLink RX5 106 "WordScalesModel" "padMany" "I") (List.mem_of_getElem? (i := 1) rfl)) (fun _ h9 => h9) rfl (tyX5_ok 12 (by decide)) rfl rfl (Nat.le_of_ble_eq_true rfl) dX5_done_19 (fun H locs hP hD hS => ?_)
    have hP : va_P D vwCl (mdW K q o1.2.1 vkind vrhymes o1.2.2.1 o1.2.2.2.1 vwishes vwishMany vsightLeft vsightRight vsightHow vsights vpad 0 o1.2.2.2.2.1 o1.2.2.2.2.2.1 o1.2.2.2.2.2.2.1 o1.2.2.2.2.2.2.2.1 o1.2.2.2.2.2.2.2.2.1 o1.2.2.2.2.2.2.2.2.2.1 o1.2.2.2.2.2.2.2.2.2.2.1 o1.2.2.2.2.2.2.2.2.2.2.2.1 o1.2.2.2.2.2.2.2.2.2.2.2.2.1 o1.2.2.2.2.2.2.2.2.2.2.2.2.2.1 o1.2.2.2.2.2.2.2.2.2.2.2.2.2.2.1 o1.2.2.2.2.2.2.2.2.2.2.2.2.2.2.2.1 o1.2.2.2.2.2.2.2.2.2.2.2.2.2.2.2.2.1 o1.2.2.2.2.2.2.2.2.2.2.2.2.2.2.2.2.2 vbrings vbringsThen vkept visKept vkeptAt visWriting) H := hP
    have hD : va_D A (mdW K q o1.2.1 vkind vrhymes o1.2.2.1 o1.2.2.2.1 vwishes vwishMany vsightLeft vsightRight vsightHow vsights vpad 0 o1.2.2.2.2.1 o1.2.2.2.2.2.1 o1.2.2.2.2.2.2.1 o1.2.2.2.2.2.2.2.1 o1.2.2.2.2.2.2.2.2.1 o1.2.2.2.2.2.2.2.2.2.1 o1.2.2.2.2.2.2.2.2.2.2.1 o1.2.2.2.2.2.2.2.2.2.2.2.1 o1.2.2.2.2.2.2.2.2.2.2.2.2.1 o1.2.2.2.2.2.2.2.2.2.2.2.2.2.1 o1.2.2.2.2.2.2.2.2.2.2.2.2.2.2.1 o1.2.2.2.2.2.2.2.2.2.2.2.2.2.2.2.1 o1.2.2.2.2.2.2.2.2.2.2.2.2.2.2.2.2.1 o1.2.2.2.2.2.2.2.2.2.2.2.2.2.2.2.2.2 vbrings vbringsThen vkept visKept vkeptAt visWriting) := hD
    refine lv_aload_n hx hb dX5_done_22 rfl (lv_at hl 1 rfl) ?_
    refine va_get (D := D) (ci := 5) (v := .int o1.2.2.2.2.2.2.2.2.1) (C := RX5) (T := TX5) (N := 33) hx hb hts inX5_done_X5 hown hK hP 0 rfl rfl 17 (by decide) (hts (.fieldLink RX5 110 "WordScalesModel" "acts" "I") (List.mem_of_getElem? (i := 2) rfl)) (fun _ h9 => h9) rfl dX5_done_23 ?_
    obtain rfl := Option.some.inj hf
    exact hret rfl rfl rfl hP hD hS dX5_done_26
  · rw [if_neg c2] at hf
    refine lv_aload_n hx hb dX5_done_11 rfl (lv_at hl 1 rfl) ?_
    refine lv_iload_n hx hb dX5_done_12 rfl (lv_at hl 0 rfl) ?_
    obtain ⟨o3, ho3, hf⟩ := ob_el hf
    refine kcw_i (D := D) (va_runV (As := [.int o1.1]) (rest := []) ⟨hx, hb, hml, hown, hts⟩ ((k_X5_back l D K q o1.2.1 vkind vrhymes o1.2.2.1 o1.2.2.2.1 vwishes vwishMany vsightLeft vsightRight vsightHow vsights vpad vpadMany o1.2.2.2.2.1 o1.2.2.2.2.2.1 o1.2.2.2.2.2.2.1 o1.2.2.2.2.2.2.2.1 o1.2.2.2.2.2.2.2.2.1 o1.2.2.2.2.2.2.2.2.2.1 o1.2.2.2.2.2.2.2.2.2.2.1 o1.2.2.2.2.2.2.2.2.2.2.2.1 o1.2.2.2.2.2.2.2.2.2.2.2.2.1 o1.2.2.2.2.2.2.2.2.2.2.2.2.2.1 o1.2.2.2.2.2.2.2.2.2.2.2.2.2.2.1 o1.2.2.2.2.2.2.2.2.2.2.2.2.2.2.2.1 o1.2.2.2.2.2.2.2.2.2.2.2.2.2.2.2.2.1 o1.2.2.2.2.2.2.2.2.2.2.2.2.2.2.2.2.2 vbrings vbringsThen vkept visKept vkeptAt visWriting o1.1 o3 ho3) H.size) (cwV 1 hts gX5_done_X5_back rfl rfl rfl ⟨rfl, yd_X5_back⟩ ⟨Nat.le_of_ble_eq_true rfl, Nat.le_of_ble_eq_true rfl⟩) (kPreV (ci := 5) (q0 := 0) hP rfl rfl hP hD hK hN) rfl rfl hl.1 rfl (lv_room (Nat.le_of_ble_eq_true rfl)) dX5_done_13 ⟨Nat.le_of_ble_eq_true rfl, Nat.le_of_ble_eq_true rfl⟩) hD hS hA (fun hzo3 H locs hP hD hS => ?_)
    have hP : va_P D vwCl (mdW K q o3.2.1 vkind vrhymes o3.2.2.1 o3.2.2.2 vwishes vwishMany vsightLeft vsightRight vsightHow vsights vpad vpadMany o1.2.2.2.2.1 o1.2.2.2.2.2.1 o1.2.2.2.2.2.2.1 o1.2.2.2.2.2.2.2.1 o1.2.2.2.2.2.2.2.2.1 o1.2.2.2.2.2.2.2.2.2.1 o1.2.2.2.2.2.2.2.2.2.2.1 o1.2.2.2.2.2.2.2.2.2.2.2.1 o1.2.2.2.2.2.2.2.2.2.2.2.2.1 o1.2.2.2.2.2.2.2.2.2.2.2.2.2.1 o1.2.2.2.2.2.2.2.2.2.2.2.2.2.2.1 o1.2.2.2.2.2.2.2.2.2.2.2.2.2.2.2.1 o1.2.2.2.2.2.2.2.2.2.2.2.2.2.2.2.2.1 o1.2.2.2.2.2.2.2.2.2.2.2.2.2.2.2.2.2 vbrings vbringsThen vkept visKept vkeptAt visWriting) H := hP
    have hD : va_D A (mdW K q o3.2.1 vkind vrhymes o3.2.2.1 o3.2.2.2 vwishes vwishMany vsightLeft vsightRight vsightHow vsights vpad vpadMany o1.2.2.2.2.1 o1.2.2.2.2.2.1 o1.2.2.2.2.2.2.1 o1.2.2.2.2.2.2.2.1 o1.2.2.2.2.2.2.2.2.1 o1.2.2.2.2.2.2.2.2.2.1 o1.2.2.2.2.2.2.2.2.2.2.1 o1.2.2.2.2.2.2.2.2.2.2.2.1 o1.2.2.2.2.2.2.2.2.2.2.2.2.1 o1.2.2.2.2.2.2.2.2.2.2.2.2.2.1 o1.2.2.2.2.2.2.2.2.2.2.2.2.2.2.1 o1.2.2.2.2.2.2.2.2.2.2.2.2.2.2.2.1 o1.2.2.2.2.2.2.2.2.2.2.2.2.2.2.2.2.1 o1.2.2.2.2.2.2.2.2.2.2.2.2.2.2.2.2.2 vbrings vbringsThen vkept visKept vkeptAt visWriting) := hD
    obtain rfl := Option.some.inj hf
    exact hret rfl rfl rfl hP hD hS dX5_done_16
def s_X5_scales_31 (vweight : Nat → Int32) (vrhymes : Nat → Int32) (p0 : Int32) (x19_l3 : Int32) (x : Int32 × Int32) : Option ((Int32 × Int32) ⊕ (Int32 × Int32)) := if 12 ≤ x.2 then (some (.inr (x.1, x.2))) else (if ((p0 >>> (x.2 &&& 31)) &&& 1) = 1 then (chk x.2 12 (if (vrhymes (x.2).toNatClampNeg) = x19_l3 then (if (vweight (x.2).toNatClampNeg) ≤ x.1 then (some (.inl (x.1, (x.2 + 1)))) else (some (.inl ((vweight (x.2).toNatClampNeg), (x.2 + 1))))) else (some (.inl (x.1, (x.2 + 1)))))) else (some (.inl (x.1, (x.2 + 1)))))
def s_X5_scales_19 (vweight : Nat → Int32) (vrhymes : Nat → Int32) (p0 : Int32) (x : Int32 × Int32) : Option ((Int32 × Int32) ⊕ (Int32 × Int32)) := if 12 ≤ x.2 then (some (.inr (x.1, x.2))) else (ob (wh (s_X5_scales_31 vweight vrhymes p0 x.2) 5000 (0, 0)) (fun r5 => some (.inl ((x.1 + r5.1), (x.2 + 1)))))
def f_X5_scales (vweight : Nat → Int32) (vrhymes : Nat → Int32) (p0 : Int32) : Option (Int32) := bd (f_X5_in p0.toInt64 (0) (4095)) (fun o1 => if o1 = 0 then (some (-2)) else (ob (wh (s_X5_scales_19 vweight vrhymes p0) 5000 (0, 0)) (fun r3 => some r3.1)))
theorem inX5_scales_X5 : ∀ w ∈ wsX50, w ∈ wsX5_scales := fun w h => List.mem_cons_of_mem _ (List.mem_append_right _ h)
theorem yd_X5_scales : yX5_scales.cls ≠ "java/lang/invoke/MethodHandle" ∧ yX5_scales.cls ≠ "java/lang/invoke/VarHandle" ∧ (parseMethodDescriptor yX5_scales.desc).map (fun d => d.parameters.length) = some 1 := by decide +kernel
abbrev rmX5_scales : Room := { frames := 1, cells := 0, slots := 0, locals := 25 }
set_option maxHeartbeats 4000000 in
set_option maxRecDepth 100000 in
theorem k_X5_scales (l : Launch) (D : va_G) (K : Nat → ClassId) (q : Nat → Nat) (vweight : Nat → Int32) (vkind : Nat → Int32) (vrhymes : Nat → Int32) (vpurse : Nat → Int32) (vhas : Nat → Int32) (vwishes : Nat → Int32) (vwishMany : Int32) (vsightLeft : Nat → Int32) (vsightRight : Nat → Int32) (vsightHow : Nat → Int32) (vsights : Int32) (vpad : Nat → Int32) (vpadMany : Int32) (vact : Nat → Int32) (vwho : Nat → Int32) (vwhich : Nat → Int32) (vwhom : Nat → Int32) (vacts : Int32) (vplace : Int32) (vopenMany : Int32) (vended : Int32) (vspoken : Int32) (vheaviest : Int32) (vheaviestWeight : Int32) (vhad : Nat → Int32) (vbadAct : Int32) (vbadWhy : Int32) (vbrings : Nat → Int64) (vbringsThen : Nat → Int64) (vkept : Nat → Int32) (visKept : Nat → Int32) (vkeptAt : Int32) (visWriting : Int32) (p0 : Int32) (out : Int32) (hf : f_X5_scales vweight vrhymes p0 = some out) : kI l D K .int yX5_scales wsX5_scales rmX5_scales [.ref (q 0), .int p0] (mdW K q vweight vkind vrhymes vpurse vhas vwishes vwishMany vsightLeft vsightRight vsightHow vsights vpad vpadMany vact vwho vwhich vwhom vacts vplace vopenMany vended vspoken vheaviest vheaviestWeight vhad vbadAct vbadWhy vbrings vbringsThen vkept visKept vkeptAt visWriting) out (mdW K q vweight vkind vrhymes vpurse vhas vwishes vwishMany vsightLeft vsightRight vsightHow vsights vpad vpadMany vact vwho vwhich vwhom vacts vplace vopenMany vended vspoken vheaviest vheaviestWeight vhad vbadAct vbadWhy vbrings vbringsThen vkept visKept vkeptAt visWriting) := by
  refine kI.of (cc := cX5_scales) (maxL := 7) (by decide) rfl (Nat.le_of_ble_eq_true rfl) ?_
  intro p e s m args below meth c A H0 Q ls hx hb hml hown hts hK hN hA hP hD hS hl hret
  have hown : s.vm.findClass RX5 = some m.cls := hown
  have hl : lv_has ls 7 [(0, .ref (q 0)), (1, .int p0)] := hl
  generalize hH : H0 = H at hP ⊢
  have hS : va_S A H0 H [] := by rw [← hH]; exact hS
  clear hH
  unfold f_X5_scales at hf
  refine lv_iload_n hx hb dX5_scales_0 rfl (lv_at hl 1 rfl) ?_
  refine lv_i2l (v := p0.toInt64) hx hb dX5_scales_1 rfl ?_
  refine lv_lconst (v := 0) hx hb dX5_scales_2 (by decide) ?_
  refine lv_ldc2 hx hb hown (hts (.constantLong RX5 100 (4095)) (List.mem_of_getElem? (i := 1) rfl)) dX5_scales_3 ?_
  obtain ⟨o1, ho1, hf⟩ := bd_el hf
  refine kc0_i (D := D) (va_runS (As := [.long p0.toInt64, .long 0, .long 4095]) (rest := []) ⟨hx, hb, hml, hown, hts⟩ ((k_X5_in l D K p0.toInt64 (0) (4095) o1 ho1) H.size) (va_cwS 3 hts gX5_scales_X5_in rfl rfl rfl yd_X5_in ⟨Nat.le_of_ble_eq_true rfl, Nat.le_of_ble_eq_true rfl⟩) (kPreS va_P_nil (va_D_nil (A := fun _ => True)) hK hN) rfl rfl hl.1 rfl (lv_room (Nat.le_of_ble_eq_true rfl)) dX5_scales_6 ⟨Nat.le_of_ble_eq_true rfl, Nat.le_of_ble_eq_true rfl⟩) hP hS hA (fun hzo1 H locs hP hS => ?_)
  refine lv_if_ne (tgt := 15) hx hb dX5_scales_9 (by decide) (fun c2 => ?_) (fun c2 => ?_)
  · rw [if_neg c2] at hf
    refine lv_iconst (v := 0) hx hb dX5_scales_15 (by decide) ?_
    refine lv_istore_n (lv' := [(2, .int 0), (0, .ref (q 0)), (1, .int p0)]) hx hb dX5_scales_16 rfl hl (by decide) rfl (fun ls hl => ?_)
    refine lv_iconst (v := 0) hx hb dX5_scales_17 (by decide) ?_
    refine lv_istore_n (lv' := [(3, .int 0), (2, .int 0), (0, .ref (q 0)), (1, .int p0)]) hx hb dX5_scales_18 rfl hl (by decide) rfl (fun ls hl => ?_)
    obtain ⟨r3, hr3, hf⟩ := ob_el hf
    have post19 : ∀ (e19_l2 : Int32) (e19_l3 : Int32) (H : Heap) (locs : List Loc) (ls : Array Slot), (some e19_l2) = some out → va_P D vwCl (mdW K q vweight vkind vrhymes vpurse vhas vwishes vwishMany vsightLeft vsightRight vsightHow vsights vpad vpadMany vact vwho vwhich vwhom vacts vplace vopenMany vended vspoken vheaviest vheaviestWeight vhad vbadAct vbadWhy vbrings vbringsThen vkept visKept vkeptAt visWriting) H → va_D A (mdW K q vweight vkind vrhymes vpurse vhas vwishes vwishMany vsightLeft vsightRight vsightHow vsights vpad vpadMany vact vwho vwhich vwhom vacts vplace vopenMany vended vspoken vheaviest vheaviestWeight vhad vbadAct vbadWhy vbrings vbringsThen vkept visKept vkeptAt visWriting) → va_S A H0 H locs → lv_has ls 7 [(3, .int e19_l3), (2, .int e19_l2), (0, .ref (q 0)), (1, .int p0)] → W p l e rmX5_scales s m args below meth c H locs 0 0 Q (F0 m 114 ls []) := by
      intro e19_l2 e19_l3 H locs ls hf hP hD hS hl
      refine lv_iload_n hx hb dX5_scales_114 rfl (lv_at hl 1 rfl) ?_
      obtain rfl := Option.some.inj hf
      exact hret rfl rfl rfl hP hD hS dX5_scales_115
    have lp19 : ∀ (fu : Nat) (x19_l2 : Int32) (x19_l3 : Int32) (H : Heap) (locs : List Loc) (ls : Array Slot), wh (s_X5_scales_19 vweight vrhymes p0) fu (x19_l2, x19_l3) = some r3 → va_P D vwCl (mdW K q vweight vkind vrhymes vpurse vhas vwishes vwishMany vsightLeft vsightRight vsightHow vsights vpad vpadMany vact vwho vwhich vwhom vacts vplace vopenMany vended vspoken vheaviest vheaviestWeight vhad vbadAct vbadWhy vbrings vbringsThen vkept visKept vkeptAt visWriting) H → va_D A (mdW K q vweight vkind vrhymes vpurse vhas vwishes vwishMany vsightLeft vsightRight vsightHow vsights vpad vpadMany vact vwho vwhich vwhom vacts vplace vopenMany vended vspoken vheaviest vheaviestWeight vhad vbadAct vbadWhy vbrings vbringsThen vkept visKept vkeptAt visWriting) → va_S A H0 H locs → lv_has ls 7 [(3, .int x19_l3), (2, .int x19_l2), (0, .ref (q 0)), (1, .int p0)] → W p l e rmX5_scales s m args below meth c H locs 0 0 Q (F0 m 19 ls []) := by
      intro fu
      induction fu with
      | zero => intro x19_l2 x19_l3 H locs ls hw19; cases hw19
      | succ fu ih19 =>
        intro x19_l2 x19_l3 H locs ls hw19 hP hD hS hl
        obtain ⟨o19_, hs19, hw19⟩ := wh_el hw19
        unfold s_X5_scales_19 at hs19
        dsimp only at hs19
        refine lv_iload_n hx hb dX5_scales_19 rfl (lv_at hl 0 rfl) ?_
        refine lv_bipush (v := 12) hx hb dX5_scales_20 (by decide) ?_
        refine lv_icmp_ge (tgt := 114) hx hb dX5_scales_22 (by decide) (fun c4 => ?_) (fun c4 => ?_)
        · rw [if_pos c4] at hs19
          obtain rfl := Option.some.inj hs19
          have e9 := Option.some.inj hw19
          rw [← e9] at hf
          exact post19 _ _ _ _ _ hf hP hD hS (lv_sub hl [0, 1, 2, 3] rfl)
        · rw [if_neg c4] at hs19
          refine lv_iconst (v := 0) hx hb dX5_scales_25 (by decide) ?_
          refine lv_istore (lv' := [(4, .int 0), (3, .int x19_l3), (2, .int x19_l2), (0, .ref (q 0)), (1, .int p0)]) hx hb dX5_scales_26 hl (by decide) rfl (fun ls hl => ?_)
          refine lv_iconst (v := 0) hx hb dX5_scales_28 (by decide) ?_
          refine lv_istore (lv' := [(5, .int 0), (4, .int 0), (3, .int x19_l3), (2, .int x19_l2), (0, .ref (q 0)), (1, .int p0)]) hx hb dX5_scales_29 hl (by decide) rfl (fun ls hl => ?_)
          obtain ⟨r5, hr5, hs19⟩ := ob_el hs19
          have post31 : ∀ (e31_l4 : Int32) (e31_l5 : Int32) (H : Heap) (locs : List Loc) (ls : Array Slot), (some (.inl ((x19_l2 + e31_l4), (x19_l3 + 1)))) = some o19_ → va_P D vwCl (mdW K q vweight vkind vrhymes vpurse vhas vwishes vwishMany vsightLeft vsightRight vsightHow vsights vpad vpadMany vact vwho vwhich vwhom vacts vplace vopenMany vended vspoken vheaviest vheaviestWeight vhad vbadAct vbadWhy vbrings vbringsThen vkept visKept vkeptAt visWriting) H → va_D A (mdW K q vweight vkind vrhymes vpurse vhas vwishes vwishMany vsightLeft vsightRight vsightHow vsights vpad vpadMany vact vwho vwhich vwhom vacts vplace vopenMany vended vspoken vheaviest vheaviestWeight vhad vbadAct vbadWhy vbrings vbringsThen vkept visKept vkeptAt visWriting) → va_S A H0 H locs → lv_has ls 7 [(5, .int e31_l5), (4, .int e31_l4), (3, .int x19_l3), (2, .int x19_l2), (0, .ref (q 0)), (1, .int p0)] → W p l e rmX5_scales s m args below meth c H locs 0 0 Q (F0 m 103 ls []) := by
            intro e31_l4 e31_l5 H locs ls hs19 hP hD hS hl
            refine lv_iload_n hx hb dX5_scales_103 rfl (lv_at hl 3 rfl) ?_
            refine lv_iload hx hb dX5_scales_104 (lv_at hl 1 rfl) ?_
            refine lv_iadd hx hb dX5_scales_106 ?_
            refine lv_istore_n (lv' := [(2, .int (x19_l2 + e31_l4)), (5, .int e31_l5), (4, .int e31_l4), (3, .int x19_l3), (0, .ref (q 0)), (1, .int p0)]) hx hb dX5_scales_107 rfl hl (by decide) rfl (fun ls hl => ?_)
            refine lv_iinc (v := (x19_l3 + 1)) (lv' := [(3, .int (x19_l3 + 1)), (2, .int (x19_l2 + e31_l4)), (5, .int e31_l5), (4, .int e31_l4), (0, .ref (q 0)), (1, .int p0)]) hx hb dX5_scales_108 hl (k := 3) rfl (by rfl) (by decide) rfl (fun ls hl => ?_)
            refine lv_goto (tgt := 19) hx hb dX5_scales_111 (by decide) ?_
            obtain rfl := Option.some.inj hs19
            exact ih19 _ _ _ _ _ hw19 hP hD hS (lv_sub hl [0, 1, 4, 5] rfl)
          have lp31 : ∀ (fu : Nat) (x31_l4 : Int32) (x31_l5 : Int32) (H : Heap) (locs : List Loc) (ls : Array Slot), wh (s_X5_scales_31 vweight vrhymes p0 x19_l3) fu (x31_l4, x31_l5) = some r5 → va_P D vwCl (mdW K q vweight vkind vrhymes vpurse vhas vwishes vwishMany vsightLeft vsightRight vsightHow vsights vpad vpadMany vact vwho vwhich vwhom vacts vplace vopenMany vended vspoken vheaviest vheaviestWeight vhad vbadAct vbadWhy vbrings vbringsThen vkept visKept vkeptAt visWriting) H → va_D A (mdW K q vweight vkind vrhymes vpurse vhas vwishes vwishMany vsightLeft vsightRight vsightHow vsights vpad vpadMany vact vwho vwhich vwhom vacts vplace vopenMany vended vspoken vheaviest vheaviestWeight vhad vbadAct vbadWhy vbrings vbringsThen vkept visKept vkeptAt visWriting) → va_S A H0 H locs → lv_has ls 7 [(5, .int x31_l5), (4, .int x31_l4), (3, .int x19_l3), (2, .int x19_l2), (0, .ref (q 0)), (1, .int p0)] → W p l e rmX5_scales s m args below meth c H locs 0 0 Q (F0 m 31 ls []) := by
            intro fu
            induction fu with
            | zero => intro x31_l4 x31_l5 H locs ls hw31; cases hw31
            | succ fu ih31 =>
              intro x31_l4 x31_l5 H locs ls hw31 hP hD hS hl
              obtain ⟨o31_, hs31, hw31⟩ := wh_el hw31
              unfold s_X5_scales_31 at hs31
              dsimp only at hs31
              refine lv_iload hx hb dX5_scales_31 (lv_at hl 0 rfl) ?_
              refine lv_bipush (v := 12) hx hb dX5_scales_33 (by decide) ?_
              refine lv_icmp_ge (tgt := 103) hx hb dX5_scales_35 (by decide) (fun c6 => ?_) (fun c6 => ?_)
              · rw [if_pos c6] at hs31
                obtain rfl := Option.some.inj hs31
                have e9 := Option.some.inj hw31
                rw [← e9] at hs19
                exact post31 _ _ _ _ _ hs19 hP hD hS (lv_sub hl [0, 1, 2, 3, 4, 5] rfl)
              · rw [if_neg c6] at hs31
                refine lv_iload_n hx hb dX5_scales_38 rfl (lv_at hl 5 rfl) ?_
                refine lv_iload hx hb dX5_scales_39 (lv_at hl 0 rfl) ?_
                refine lv_ishr hx hb dX5_scales_41 ?_
                refine lv_iconst (v := 1) hx hb dX5_scales_42 (by decide) ?_
                refine lv_iand hx hb dX5_scales_43 ?_
                refine lv_iconst (v := 1) hx hb dX5_scales_44 (by decide) ?_
                refine lv_icmp_ne (tgt := 63) hx hb dX5_scales_45 (by decide) (fun c7 => ?_) (fun c7 => ?_)
                · rw [if_neg c7] at hs31
                  refine lv_iconst (v := 0) hx hb dX5_scales_63 (by decide) ?_
                  refine lv_istore (lv' := [(6, .int 0), (5, .int x31_l5), (4, .int x31_l4), (3, .int x19_l3), (2, .int x19_l2), (0, .ref (q 0)), (1, .int p0)]) hx hb dX5_scales_64 hl (by decide) rfl (fun ls hl => ?_)
                  refine lv_iload hx hb dX5_scales_66 (lv_at hl 0 rfl) ?_
                  refine lv_if_eq (tgt := 93) hx hb dX5_scales_68 (by decide) (fun c8 => ?_) (fun c8 => ?_)
                  · skip
                    refine lv_iload hx hb dX5_scales_93 (lv_at hl 2 rfl) ?_
                    refine lv_istore (lv' := [(4, .int x31_l4), (6, .int 0), (5, .int x31_l5), (3, .int x19_l3), (2, .int x19_l2), (0, .ref (q 0)), (1, .int p0)]) hx hb dX5_scales_95 hl (by decide) rfl (fun ls hl => ?_)
                    refine lv_iinc (v := (x31_l5 + 1)) (lv' := [(5, .int (x31_l5 + 1)), (4, .int x31_l4), (6, .int 0), (3, .int x19_l3), (2, .int x19_l2), (0, .ref (q 0)), (1, .int p0)]) hx hb dX5_scales_97 hl (k := 2) rfl (by rfl) (by decide) rfl (fun ls hl => ?_)
                    refine lv_goto (tgt := 31) hx hb dX5_scales_100 (by decide) ?_
                    obtain rfl := Option.some.inj hs31
                    exact ih31 _ _ _ _ _ hw31 hP hD hS (lv_sub hl [0, 1, 3, 4, 5, 6] rfl)
                  · exact absurd (by decide : (0 : Int32) = 0) c8
                · rw [if_pos c7] at hs31
                  refine lv_aload_n hx hb dX5_scales_48 rfl (lv_at hl 4 rfl) ?_
                  refine va_get (D := D) (ci := 5) (v := .ref (q 3)) (C := RX5) (T := TX5) (N := 33) hx hb hts inX5_scales_X5 hown hK hP 0 rfl rfl 2 (by decide) (hts (.fieldLink RX5 16 "WordScalesModel" "rhymes" "[I") (List.mem_of_getElem? (i := 2) rfl)) (fun _ h9 => h9) rfl dX5_scales_49 ?_
                  refine lv_iload hx hb dX5_scales_52 (lv_at hl 0 rfl) ?_
                  obtain ⟨v9, hs31⟩ := chk_el hs31
                  refine va_iald (D := D) (f := vrhymes) hx hb hK hP 3 0 rfl rfl v9 dX5_scales_54 ?_
                  refine lv_iload_n hx hb dX5_scales_55 rfl (lv_at hl 2 rfl) ?_
                  refine lv_icmp_ne (tgt := 63) hx hb dX5_scales_56 (by decide) (fun c10 => ?_) (fun c10 => ?_)
                  · rw [if_neg c10] at hs31
                    refine lv_iconst (v := 0) hx hb dX5_scales_63 (by decide) ?_
                    refine lv_istore (lv' := [(6, .int 0), (5, .int x31_l5), (4, .int x31_l4), (3, .int x19_l3), (2, .int x19_l2), (0, .ref (q 0)), (1, .int p0)]) hx hb dX5_scales_64 hl (by decide) rfl (fun ls hl => ?_)
                    refine lv_iload hx hb dX5_scales_66 (lv_at hl 0 rfl) ?_
                    refine lv_if_eq (tgt := 93) hx hb dX5_scales_68 (by decide) (fun c11 => ?_) (fun c11 => ?_)
                    · skip
                      refine lv_iload hx hb dX5_scales_93 (lv_at hl 2 rfl) ?_
                      refine lv_istore (lv' := [(4, .int x31_l4), (6, .int 0), (5, .int x31_l5), (3, .int x19_l3), (2, .int x19_l2), (0, .ref (q 0)), (1, .int p0)]) hx hb dX5_scales_95 hl (by decide) rfl (fun ls hl => ?_)
                      refine lv_iinc (v := (x31_l5 + 1)) (lv' := [(5, .int (x31_l5 + 1)), (4, .int x31_l4), (6, .int 0), (3, .int x19_l3), (2, .int x19_l2), (0, .ref (q 0)), (1, .int p0)]) hx hb dX5_scales_97 hl (k := 2) rfl (by rfl) (by decide) rfl (fun ls hl => ?_)
                      refine lv_goto (tgt := 31) hx hb dX5_scales_100 (by decide) ?_
                      obtain rfl := Option.some.inj hs31
                      exact ih31 _ _ _ _ _ hw31 hP hD hS (lv_sub hl [0, 1, 3, 4, 5, 6] rfl)
                    · exact absurd (by decide : (0 : Int32) = 0) c11
                  · rw [if_pos c10] at hs31
                    refine lv_iconst (v := 1) hx hb dX5_scales_59 (by decide) ?_
                    refine lv_goto (tgt := 64) hx hb dX5_scales_60 (by decide) ?_
                    refine lv_istore (lv' := [(6, .int 1), (5, .int x31_l5), (4, .int x31_l4), (3, .int x19_l3), (2, .int x19_l2), (0, .ref (q 0)), (1, .int p0)]) hx hb dX5_scales_64 hl (by decide) rfl (fun ls hl => ?_)
                    refine lv_iload hx hb dX5_scales_66 (lv_at hl 0 rfl) ?_
                    refine lv_if_eq (tgt := 93) hx hb dX5_scales_68 (by decide) (fun c12 => ?_) (fun c12 => ?_)
                    · exact absurd c12 (by decide : ¬ (1 : Int32) = 0)
                    · skip
                      refine lv_aload_n hx hb dX5_scales_71 rfl (lv_at hl 5 rfl) ?_
                      refine va_get (D := D) (ci := 5) (v := .ref (q 1)) (C := RX5) (T := TX5) (N := 33) hx hb hts inX5_scales_X5 hown hK hP 0 rfl rfl 0 (by decide) (hts (.fieldLink RX5 7 "WordScalesModel" "weight" "[I") (List.mem_of_getElem? (i := 3) rfl)) (fun _ h9 => h9) rfl dX5_scales_72 ?_
                      refine lv_iload hx hb dX5_scales_75 (lv_at hl 1 rfl) ?_
                      refine va_iald (D := D) (f := vweight) hx hb hK hP 1 0 rfl rfl v9 dX5_scales_77 ?_
                      refine lv_iload hx hb dX5_scales_78 (lv_at hl 2 rfl) ?_
                      refine lv_icmp_le (tgt := 93) hx hb dX5_scales_80 (by decide) (fun c13 => ?_) (fun c13 => ?_)
                      · rw [if_pos c13] at hs31
                        refine lv_iload hx hb dX5_scales_93 (lv_at hl 2 rfl) ?_
                        refine lv_istore (lv' := [(4, .int x31_l4), (6, .int 1), (5, .int x31_l5), (3, .int x19_l3), (2, .int x19_l2), (0, .ref (q 0)), (1, .int p0)]) hx hb dX5_scales_95 hl (by decide) rfl (fun ls hl => ?_)
                        refine lv_iinc (v := (x31_l5 + 1)) (lv' := [(5, .int (x31_l5 + 1)), (4, .int x31_l4), (6, .int 1), (3, .int x19_l3), (2, .int x19_l2), (0, .ref (q 0)), (1, .int p0)]) hx hb dX5_scales_97 hl (k := 2) rfl (by rfl) (by decide) rfl (fun ls hl => ?_)
                        refine lv_goto (tgt := 31) hx hb dX5_scales_100 (by decide) ?_
                        obtain rfl := Option.some.inj hs31
                        exact ih31 _ _ _ _ _ hw31 hP hD hS (lv_sub hl [0, 1, 3, 4, 5, 6] rfl)
                      · rw [if_neg c13] at hs31
                        refine lv_aload_n hx hb dX5_scales_83 rfl (lv_at hl 5 rfl) ?_
                        refine va_get (D := D) (ci := 5) (v := .ref (q 1)) (C := RX5) (T := TX5) (N := 33) hx hb hts inX5_scales_X5 hown hK hP 0 rfl rfl 0 (by decide) (hts (.fieldLink RX5 7 "WordScalesModel" "weight" "[I") (List.mem_of_getElem? (i := 3) rfl)) (fun _ h9 => h9) rfl dX5_scales_84 ?_
                        refine lv_iload hx hb dX5_scales_87 (lv_at hl 1 rfl) ?_
                        refine va_iald (D := D) (f := vweight) hx hb hK hP 1 0 rfl rfl v9 dX5_scales_89 ?_
                        refine lv_goto (tgt := 95) hx hb dX5_scales_90 (by decide) ?_
                        refine lv_istore (lv' := [(4, .int (vweight (x31_l5).toNatClampNeg)), (6, .int 1), (5, .int x31_l5), (3, .int x19_l3), (2, .int x19_l2), (0, .ref (q 0)), (1, .int p0)]) hx hb dX5_scales_95 hl (by decide) rfl (fun ls hl => ?_)
                        refine lv_iinc (v := (x31_l5 + 1)) (lv' := [(5, .int (x31_l5 + 1)), (4, .int (vweight (x31_l5).toNatClampNeg)), (6, .int 1), (3, .int x19_l3), (2, .int x19_l2), (0, .ref (q 0)), (1, .int p0)]) hx hb dX5_scales_97 hl (k := 2) rfl (by rfl) (by decide) rfl (fun ls hl => ?_)
                        refine lv_goto (tgt := 31) hx hb dX5_scales_100 (by decide) ?_
                        obtain rfl := Option.some.inj hs31
                        exact ih31 _ _ _ _ _ hw31 hP hD hS (lv_sub hl [0, 1, 3, 4, 5, 6] rfl)
          exact lp31 5000 _ _ _ _ _ hr5 hP hD hS (lv_sub hl [0, 1, 2, 3, 4, 5] rfl)
    exact lp19 5000 _ _ _ _ _ hr3 hP hD hS (lv_sub hl [0, 1, 2, 3] rfl)
  · rw [if_pos c2] at hf
    refine lv_bipush (v := (-2)) hx hb dX5_scales_12 (by decide) ?_
    obtain rfl := Option.some.inj hf
    exact hret rfl rfl rfl hP hD hS dX5_scales_14
def s_X5_manyOf_5 (vkind : Nat → Int32) (p0 : Int32) (p1 : Int32) (x : Int32 × Int32) : Option ((Int32 × Int32) ⊕ (Int32 × Int32)) := if 12 ≤ x.2 then (some (.inr (x.1, x.2))) else (if ((p0 >>> (x.2 &&& 31)) &&& 1) = 1 then (chk x.2 12 (if (vkind (x.2).toNatClampNeg) = p1 then (some (.inl ((x.1 + 1), (x.2 + 1)))) else (some (.inl ((x.1 + 0), (x.2 + 1)))))) else (some (.inl ((x.1 + 0), (x.2 + 1)))))
def f_X5_manyOf (vkind : Nat → Int32) (p0 : Int32) (p1 : Int32) : Option (Int32) := ob (wh (s_X5_manyOf_5 vkind p0 p1) 5000 (0, 0)) (fun r1 => some r1.1)
theorem inX5_manyOf_X5 : ∀ w ∈ wsX50, w ∈ wsX5_manyOf := fun w h => List.mem_cons_of_mem _ (List.mem_append_right _ h)
theorem yd_X5_manyOf : yX5_manyOf.cls ≠ "java/lang/invoke/MethodHandle" ∧ yX5_manyOf.cls ≠ "java/lang/invoke/VarHandle" ∧ (parseMethodDescriptor yX5_manyOf.desc).map (fun d => d.parameters.length) = some 2 := by decide +kernel
abbrev rmX5_manyOf : Room := { frames := 0, cells := 0, slots := 0, locals := 0 }
set_option maxHeartbeats 4000000 in
set_option maxRecDepth 100000 in
theorem k_X5_manyOf (l : Launch) (D : va_G) (K : Nat → ClassId) (q : Nat → Nat) (vweight : Nat → Int32) (vkind : Nat → Int32) (vrhymes : Nat → Int32) (vpurse : Nat → Int32) (vhas : Nat → Int32) (vwishes : Nat → Int32) (vwishMany : Int32) (vsightLeft : Nat → Int32) (vsightRight : Nat → Int32) (vsightHow : Nat → Int32) (vsights : Int32) (vpad : Nat → Int32) (vpadMany : Int32) (vact : Nat → Int32) (vwho : Nat → Int32) (vwhich : Nat → Int32) (vwhom : Nat → Int32) (vacts : Int32) (vplace : Int32) (vopenMany : Int32) (vended : Int32) (vspoken : Int32) (vheaviest : Int32) (vheaviestWeight : Int32) (vhad : Nat → Int32) (vbadAct : Int32) (vbadWhy : Int32) (vbrings : Nat → Int64) (vbringsThen : Nat → Int64) (vkept : Nat → Int32) (visKept : Nat → Int32) (vkeptAt : Int32) (visWriting : Int32) (p0 : Int32) (p1 : Int32) (out : Int32) (hf : f_X5_manyOf vkind p0 p1 = some out) : kI l D K .int yX5_manyOf wsX5_manyOf rmX5_manyOf [.ref (q 0), .int p0, .int p1] (mdW K q vweight vkind vrhymes vpurse vhas vwishes vwishMany vsightLeft vsightRight vsightHow vsights vpad vpadMany vact vwho vwhich vwhom vacts vplace vopenMany vended vspoken vheaviest vheaviestWeight vhad vbadAct vbadWhy vbrings vbringsThen vkept visKept vkeptAt visWriting) out (mdW K q vweight vkind vrhymes vpurse vhas vwishes vwishMany vsightLeft vsightRight vsightHow vsights vpad vpadMany vact vwho vwhich vwhom vacts vplace vopenMany vended vspoken vheaviest vheaviestWeight vhad vbadAct vbadWhy vbrings vbringsThen vkept visKept vkeptAt visWriting) := by
  refine kI.of (cc := cX5_manyOf) (maxL := 5) (by decide) rfl (Nat.le_of_ble_eq_true rfl) ?_
  intro p e s m args below meth c A H0 Q ls hx hb hml hown hts hK hN hA hP hD hS hl hret
  have hown : s.vm.findClass RX5 = some m.cls := hown
  have hl : lv_has ls 5 [(0, .ref (q 0)), (1, .int p0), (2, .int p1)] := hl
  generalize hH : H0 = H at hP ⊢
  have hS : va_S A H0 H [] := by rw [← hH]; exact hS
  clear hH
  unfold f_X5_manyOf at hf
  refine lv_iconst (v := 0) hx hb dX5_manyOf_0 (by decide) ?_
  refine lv_istore_n (lv' := [(3, .int 0), (0, .ref (q 0)), (1, .int p0), (2, .int p1)]) hx hb dX5_manyOf_1 rfl hl (by decide) rfl (fun ls hl => ?_)
  refine lv_iconst (v := 0) hx hb dX5_manyOf_2 (by decide) ?_
  refine lv_istore (lv' := [(4, .int 0), (3, .int 0), (0, .ref (q 0)), (1, .int p0), (2, .int p1)]) hx hb dX5_manyOf_3 hl (by decide) rfl (fun ls hl => ?_)
  obtain ⟨r1, hr1, hf⟩ := ob_el hf
  have post5 : ∀ (e5_l3 : Int32) (e5_l4 : Int32) (H : Heap) (locs : List Loc) (ls : Array Slot), (some e5_l3) = some out → va_P D vwCl (mdW K q vweight vkind vrhymes vpurse vhas vwishes vwishMany vsightLeft vsightRight vsightHow vsights vpad vpadMany vact vwho vwhich vwhom vacts vplace vopenMany vended vspoken vheaviest vheaviestWeight vhad vbadAct vbadWhy vbrings vbringsThen vkept visKept vkeptAt visWriting) H → va_D A (mdW K q vweight vkind vrhymes vpurse vhas vwishes vwishMany vsightLeft vsightRight vsightHow vsights vpad vpadMany vact vwho vwhich vwhom vacts vplace vopenMany vended vspoken vheaviest vheaviestWeight vhad vbadAct vbadWhy vbrings vbringsThen vkept visKept vkeptAt visWriting) → va_S A H0 H locs → lv_has ls 5 [(4, .int e5_l4), (3, .int e5_l3), (0, .ref (q 0)), (1, .int p0), (2, .int p1)] → W p l e rmX5_manyOf s m args below meth c H locs 0 0 Q (F0 m 47 ls []) := by
    intro e5_l3 e5_l4 H locs ls hf hP hD hS hl
    refine lv_iload_n hx hb dX5_manyOf_47 rfl (lv_at hl 1 rfl) ?_
    obtain rfl := Option.some.inj hf
    exact hret rfl rfl rfl hP hD hS dX5_manyOf_48
  have lp5 : ∀ (fu : Nat) (x5_l3 : Int32) (x5_l4 : Int32) (H : Heap) (locs : List Loc) (ls : Array Slot), wh (s_X5_manyOf_5 vkind p0 p1) fu (x5_l3, x5_l4) = some r1 → va_P D vwCl (mdW K q vweight vkind vrhymes vpurse vhas vwishes vwishMany vsightLeft vsightRight vsightHow vsights vpad vpadMany vact vwho vwhich vwhom vacts vplace vopenMany vended vspoken vheaviest vheaviestWeight vhad vbadAct vbadWhy vbrings vbringsThen vkept visKept vkeptAt visWriting) H → va_D A (mdW K q vweight vkind vrhymes vpurse vhas vwishes vwishMany vsightLeft vsightRight vsightHow vsights vpad vpadMany vact vwho vwhich vwhom vacts vplace vopenMany vended vspoken vheaviest vheaviestWeight vhad vbadAct vbadWhy vbrings vbringsThen vkept visKept vkeptAt visWriting) → va_S A H0 H locs → lv_has ls 5 [(4, .int x5_l4), (3, .int x5_l3), (0, .ref (q 0)), (1, .int p0), (2, .int p1)] → W p l e rmX5_manyOf s m args below meth c H locs 0 0 Q (F0 m 5 ls []) := by
    intro fu
    induction fu with
    | zero => intro x5_l3 x5_l4 H locs ls hw5; cases hw5
    | succ fu ih5 =>
      intro x5_l3 x5_l4 H locs ls hw5 hP hD hS hl
      obtain ⟨o5_, hs5, hw5⟩ := wh_el hw5
      unfold s_X5_manyOf_5 at hs5
      dsimp only at hs5
      refine lv_iload hx hb dX5_manyOf_5 (lv_at hl 0 rfl) ?_
      refine lv_bipush (v := 12) hx hb dX5_manyOf_7 (by decide) ?_
      refine lv_icmp_ge (tgt := 47) hx hb dX5_manyOf_9 (by decide) (fun c2 => ?_) (fun c2 => ?_)
      · rw [if_pos c2] at hs5
        obtain rfl := Option.some.inj hs5
        have e9 := Option.some.inj hw5
        rw [← e9] at hf
        exact post5 _ _ _ _ _ hf hP hD hS (lv_sub hl [0, 1, 2, 3, 4] rfl)
      · rw [if_neg c2] at hs5
        refine lv_iload_n hx hb dX5_manyOf_12 rfl (lv_at hl 1 rfl) ?_
        refine lv_iload_n hx hb dX5_manyOf_13 rfl (lv_at hl 3 rfl) ?_
        refine lv_iload hx hb dX5_manyOf_14 (lv_at hl 0 rfl) ?_
        refine lv_ishr hx hb dX5_manyOf_16 ?_
        refine lv_iconst (v := 1) hx hb dX5_manyOf_17 (by decide) ?_
        refine lv_iand hx hb dX5_manyOf_18 ?_
        refine lv_iconst (v := 1) hx hb dX5_manyOf_19 (by decide) ?_
        refine lv_icmp_ne (tgt := 38) hx hb dX5_manyOf_20 (by decide) (fun c3 => ?_) (fun c3 => ?_)
        · rw [if_neg c3] at hs5
          refine lv_iconst (v := 0) hx hb dX5_manyOf_38 (by decide) ?_
          refine lv_iadd hx hb dX5_manyOf_39 ?_
          refine lv_istore_n (lv' := [(3, .int (x5_l3 + 0)), (4, .int x5_l4), (0, .ref (q 0)), (1, .int p0), (2, .int p1)]) hx hb dX5_manyOf_40 rfl hl (by decide) rfl (fun ls hl => ?_)
          refine lv_iinc (v := (x5_l4 + 1)) (lv' := [(4, .int (x5_l4 + 1)), (3, .int (x5_l3 + 0)), (0, .ref (q 0)), (1, .int p0), (2, .int p1)]) hx hb dX5_manyOf_41 hl (k := 1) rfl (by rfl) (by decide) rfl (fun ls hl => ?_)
          refine lv_goto (tgt := 5) hx hb dX5_manyOf_44 (by decide) ?_
          obtain rfl := Option.some.inj hs5
          exact ih5 _ _ _ _ _ hw5 hP hD hS (lv_sub hl [0, 1, 2, 3, 4] rfl)
        · rw [if_pos c3] at hs5
          refine lv_aload_n hx hb dX5_manyOf_23 rfl (lv_at hl 2 rfl) ?_
          refine va_get (D := D) (ci := 5) (v := .ref (q 2)) (C := RX5) (T := TX5) (N := 33) hx hb hts inX5_manyOf_X5 hown hK hP 0 rfl rfl 1 (by decide) (hts (.fieldLink RX5 13 "WordScalesModel" "kind" "[I") (List.mem_of_getElem? (i := 1) rfl)) (fun _ h9 => h9) rfl dX5_manyOf_24 ?_
          refine lv_iload hx hb dX5_manyOf_27 (lv_at hl 0 rfl) ?_
          obtain ⟨v4, hs5⟩ := chk_el hs5
          refine va_iald (D := D) (f := vkind) hx hb hK hP 2 0 rfl rfl v4 dX5_manyOf_29 ?_
          refine lv_iload_n hx hb dX5_manyOf_30 rfl (lv_at hl 4 rfl) ?_
          refine lv_icmp_ne (tgt := 38) hx hb dX5_manyOf_31 (by decide) (fun c5 => ?_) (fun c5 => ?_)
          · rw [if_neg c5] at hs5
            refine lv_iconst (v := 0) hx hb dX5_manyOf_38 (by decide) ?_
            refine lv_iadd hx hb dX5_manyOf_39 ?_
            refine lv_istore_n (lv' := [(3, .int (x5_l3 + 0)), (4, .int x5_l4), (0, .ref (q 0)), (1, .int p0), (2, .int p1)]) hx hb dX5_manyOf_40 rfl hl (by decide) rfl (fun ls hl => ?_)
            refine lv_iinc (v := (x5_l4 + 1)) (lv' := [(4, .int (x5_l4 + 1)), (3, .int (x5_l3 + 0)), (0, .ref (q 0)), (1, .int p0), (2, .int p1)]) hx hb dX5_manyOf_41 hl (k := 1) rfl (by rfl) (by decide) rfl (fun ls hl => ?_)
            refine lv_goto (tgt := 5) hx hb dX5_manyOf_44 (by decide) ?_
            obtain rfl := Option.some.inj hs5
            exact ih5 _ _ _ _ _ hw5 hP hD hS (lv_sub hl [0, 1, 2, 3, 4] rfl)
          · rw [if_pos c5] at hs5
            refine lv_iconst (v := 1) hx hb dX5_manyOf_34 (by decide) ?_
            refine lv_goto (tgt := 39) hx hb dX5_manyOf_35 (by decide) ?_
            refine lv_iadd hx hb dX5_manyOf_39 ?_
            refine lv_istore_n (lv' := [(3, .int (x5_l3 + 1)), (4, .int x5_l4), (0, .ref (q 0)), (1, .int p0), (2, .int p1)]) hx hb dX5_manyOf_40 rfl hl (by decide) rfl (fun ls hl => ?_)
            refine lv_iinc (v := (x5_l4 + 1)) (lv' := [(4, .int (x5_l4 + 1)), (3, .int (x5_l3 + 1)), (0, .ref (q 0)), (1, .int p0), (2, .int p1)]) hx hb dX5_manyOf_41 hl (k := 1) rfl (by rfl) (by decide) rfl (fun ls hl => ?_)
            refine lv_goto (tgt := 5) hx hb dX5_manyOf_44 (by decide) ?_
            obtain rfl := Option.some.inj hs5
            exact ih5 _ _ _ _ _ hw5 hP hD hS (lv_sub hl [0, 1, 2, 3, 4] rfl)
  exact lp5 5000 _ _ _ _ _ hr1 hP hD hS (lv_sub hl [0, 1, 2, 3, 4] rfl)
def s_X5_times_5 (p0 : Int64) (p1 : Int32) (x : Int64 × Int32) : Option ((Int64 × Int32) ⊕ (Int64 × Int32)) := if p1 ≤ x.2 then (some (.inr (x.1, x.2))) else (some (.inl ((x.1 * p0), (x.2 + 1))))
def f_X5_times (p0 : Int64) (p1 : Int32) : Option (Int64) := ob (wh (s_X5_times_5 p0 p1) 5000 (1, 0)) (fun r1 => some r1.1)
theorem yd_X5_times : yX5_times.cls ≠ "java/lang/invoke/MethodHandle" ∧ yX5_times.cls ≠ "java/lang/invoke/VarHandle" ∧ (parseMethodDescriptor yX5_times.desc).map (fun d => d.parameters.length) = some 2 := by decide +kernel
abbrev rmX5_times : Room := { frames := 0, cells := 0, slots := 0, locals := 0 }
set_option maxHeartbeats 4000000 in
set_option maxRecDepth 100000 in
theorem k_X5_times (l : Launch) (D : va_G) (K : Nat → ClassId) (p0 : Int64) (p1 : Int32) (out : Int64) (hf : f_X5_times p0 p1 = some out) : kL l D K yX5_times wsX5_times rmX5_times [.long p0, .int p1] ([] : va_W) out ([] : va_W) := by
  refine kL.of (cc := cX5_times) (maxL := 6) (by decide) rfl (Nat.le_of_ble_eq_true rfl) ?_
  intro p e s m args below meth c A H0 Q ls hx hb hml hown hts hK hN hA hP hD hS hl hret
  have hown : s.vm.findClass RX5 = some m.cls := hown
  have hl : lv_has ls 6 [(0, .long p0), (2, .int p1)] := hl
  generalize hH : H0 = H at hP ⊢
  have hS : va_S A H0 H [] := by rw [← hH]; exact hS
  clear hH
  unfold f_X5_times at hf
  refine lv_lconst (v := 1) hx hb dX5_times_0 (by decide) ?_
  refine lv_lstore_n (lv' := [(3, .long 1), (0, .long p0), (2, .int p1)]) hx hb dX5_times_1 rfl hl (by decide) rfl (fun ls hl => ?_)
  refine lv_iconst (v := 0) hx hb dX5_times_2 (by decide) ?_
  refine lv_istore (lv' := [(5, .int 0), (3, .long 1), (0, .long p0), (2, .int p1)]) hx hb dX5_times_3 hl (by decide) rfl (fun ls hl => ?_)
  obtain ⟨r1, hr1, hf⟩ := ob_el hf
  have post5 : ∀ (e5_l3 : Int64) (e5_l5 : Int32) (H : Heap) (locs : List Loc) (ls : Array Slot), (some e5_l3) = some out → va_P D vwCl ([] : va_W) H → va_D A ([] : va_W) → va_S A H0 H locs → lv_has ls 6 [(5, .int e5_l5), (3, .long e5_l3), (0, .long p0), (2, .int p1)] → W p l e rmX5_times s m args below meth c H locs 0 0 Q (F0 m 21 ls []) := by
    intro e5_l3 e5_l5 H locs ls hf hP hD hS hl
    refine lv_lload_n hx hb dX5_times_21 rfl (lv_at hl 1 rfl) ?_
    obtain rfl := Option.some.inj hf
    exact hret rfl rfl hP hD hS dX5_times_22
  have lp5 : ∀ (fu : Nat) (x5_l3 : Int64) (x5_l5 : Int32) (H : Heap) (locs : List Loc) (ls : Array Slot), wh (s_X5_times_5 p0 p1) fu (x5_l3, x5_l5) = some r1 → va_P D vwCl ([] : va_W) H → va_D A ([] : va_W) → va_S A H0 H locs → lv_has ls 6 [(5, .int x5_l5), (3, .long x5_l3), (0, .long p0), (2, .int p1)] → W p l e rmX5_times s m args below meth c H locs 0 0 Q (F0 m 5 ls []) := by
    intro fu
    induction fu with
    | zero => intro x5_l3 x5_l5 H locs ls hw5; cases hw5
    | succ fu ih5 =>
      intro x5_l3 x5_l5 H locs ls hw5 hP hD hS hl
      obtain ⟨o5_, hs5, hw5⟩ := wh_el hw5
      unfold s_X5_times_5 at hs5
      dsimp only at hs5
      refine lv_iload hx hb dX5_times_5 (lv_at hl 0 rfl) ?_
      refine lv_iload_n hx hb dX5_times_7 rfl (lv_at hl 3 rfl) ?_
      refine lv_icmp_ge (tgt := 21) hx hb dX5_times_8 (by decide) (fun c2 => ?_) (fun c2 => ?_)
      · rw [if_pos c2] at hs5
        obtain rfl := Option.some.inj hs5
        have e9 := Option.some.inj hw5
        rw [← e9] at hf
        exact post5 _ _ _ _ _ hf hP hD hS (lv_sub hl [0, 1, 2, 3] rfl)
      · rw [if_neg c2] at hs5
        refine lv_lload_n hx hb dX5_times_11 rfl (lv_at hl 1 rfl) ?_
        refine lv_lload_n hx hb dX5_times_12 rfl (lv_at hl 2 rfl) ?_
        refine lv_lmul hx hb dX5_times_13 ?_
        refine lv_lstore_n (lv' := [(3, .long (x5_l3 * p0)), (5, .int x5_l5), (0, .long p0), (2, .int p1)]) hx hb dX5_times_14 rfl hl (by decide) rfl (fun ls hl => ?_)
        refine lv_iinc (v := (x5_l5 + 1)) (lv' := [(5, .int (x5_l5 + 1)), (3, .long (x5_l3 * p0)), (0, .long p0), (2, .int p1)]) hx hb dX5_times_15 hl (k := 1) rfl (by rfl) (by decide) rfl (fun ls hl => ?_)
        refine lv_goto (tgt := 5) hx hb dX5_times_18 (by decide) ?_
        obtain rfl := Option.some.inj hs5
        exact ih5 _ _ _ _ _ hw5 hP hD hS (lv_sub hl [0, 1, 2, 3] rfl)
  exact lp5 5000 _ _ _ _ _ hr1 hP hD hS (lv_sub hl [0, 1, 2, 3] rfl)
