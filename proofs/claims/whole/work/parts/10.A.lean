def f_J6_bitCount_0f7a4 (p0 : Int32) : Int32 := ((((((((p0 - (((p0.toUInt32 >>> ((1 : Int32).toUInt32 &&& Int32.toUInt32 31)).toInt32) &&& 1431655765)) &&& 858993459) + ((((p0 - (((p0.toUInt32 >>> ((1 : Int32).toUInt32 &&& Int32.toUInt32 31)).toInt32) &&& 1431655765)).toUInt32 >>> ((2 : Int32).toUInt32 &&& Int32.toUInt32 31)).toInt32) &&& 858993459)) + (((((p0 - (((p0.toUInt32 >>> ((1 : Int32).toUInt32 &&& Int32.toUInt32 31)).toInt32) &&& 1431655765)) &&& 858993459) + ((((p0 - (((p0.toUInt32 >>> ((1 : Int32).toUInt32 &&& Int32.toUInt32 31)).toInt32) &&& 1431655765)).toUInt32 >>> ((2 : Int32).toUInt32 &&& Int32.toUInt32 31)).toInt32) &&& 858993459)).toUInt32 >>> ((4 : Int32).toUInt32 &&& Int32.toUInt32 31)).toInt32)) &&& 252645135) + (((((((p0 - (((p0.toUInt32 >>> ((1 : Int32).toUInt32 &&& Int32.toUInt32 31)).toInt32) &&& 1431655765)) &&& 858993459) + ((((p0 - (((p0.toUInt32 >>> ((1 : Int32).toUInt32 &&& Int32.toUInt32 31)).toInt32) &&& 1431655765)).toUInt32 >>> ((2 : Int32).toUInt32 &&& Int32.toUInt32 31)).toInt32) &&& 858993459)) + (((((p0 - (((p0.toUInt32 >>> ((1 : Int32).toUInt32 &&& Int32.toUInt32 31)).toInt32) &&& 1431655765)) &&& 858993459) + ((((p0 - (((p0.toUInt32 >>> ((1 : Int32).toUInt32 &&& Int32.toUInt32 31)).toInt32) &&& 1431655765)).toUInt32 >>> ((2 : Int32).toUInt32 &&& Int32.toUInt32 31)).toInt32) &&& 858993459)).toUInt32 >>> ((4 : Int32).toUInt32 &&& Int32.toUInt32 31)).toInt32)) &&& 252645135).toUInt32 >>> ((8 : Int32).toUInt32 &&& Int32.toUInt32 31)).toInt32)) + ((((((((p0 - (((p0.toUInt32 >>> ((1 : Int32).toUInt32 &&& Int32.toUInt32 31)).toInt32) &&& 1431655765)) &&& 858993459) + ((((p0 - (((p0.toUInt32 >>> ((1 : Int32).toUInt32 &&& Int32.toUInt32 31)).toInt32) &&& 1431655765)).toUInt32 >>> ((2 : Int32).toUInt32 &&& Int32.toUInt32 31)).toInt32) &&& 858993459)) + (((((p0 - (((p0.toUInt32 >>> ((1 : Int32).toUInt32 &&& Int32.toUInt32 31)).toInt32) &&& 1431655765)) &&& 858993459) + ((((p0 - (((p0.toUInt32 >>> ((1 : Int32).toUInt32 &&& Int32.toUInt32 31)).toInt32) &&& 1431655765)).toUInt32 >>> ((2 : Int32).toUInt32 &&& Int32.toUInt32 31)).toInt32) &&& 858993459)).toUInt32 >>> ((4 : Int32).toUInt32 &&& Int32.toUInt32 31)).toInt32)) &&& 252645135) + (((((((p0 - (((p0.toUInt32 >>> ((1 : Int32).toUInt32 &&& Int32.toUInt32 31)).toInt32) &&& 1431655765)) &&& 858993459) + ((((p0 - (((p0.toUInt32 >>> ((1 : Int32).toUInt32 &&& Int32.toUInt32 31)).toInt32) &&& 1431655765)).toUInt32 >>> ((2 : Int32).toUInt32 &&& Int32.toUInt32 31)).toInt32) &&& 858993459)) + (((((p0 - (((p0.toUInt32 >>> ((1 : Int32).toUInt32 &&& Int32.toUInt32 31)).toInt32) &&& 1431655765)) &&& 858993459) + ((((p0 - (((p0.toUInt32 >>> ((1 : Int32).toUInt32 &&& Int32.toUInt32 31)).toInt32) &&& 1431655765)).toUInt32 >>> ((2 : Int32).toUInt32 &&& Int32.toUInt32 31)).toInt32) &&& 858993459)).toUInt32 >>> ((4 : Int32).toUInt32 &&& Int32.toUInt32 31)).toInt32)) &&& 252645135).toUInt32 >>> ((8 : Int32).toUInt32 &&& Int32.toUInt32 31)).toInt32)).toUInt32 >>> ((16 : Int32).toUInt32 &&& Int32.toUInt32 31)).toInt32)) &&& 63)
theorem yd_J6_bitCount_0f7a4 : yJ6_bitCount_0f7a4.cls ≠ "java/lang/invoke/MethodHandle" ∧ yJ6_bitCount_0f7a4.cls ≠ "java/lang/invoke/VarHandle" ∧ (parseMethodDescriptor yJ6_bitCount_0f7a4.desc).map (fun d => d.parameters.length) = some 1 := by decide +kernel
abbrev rmJ6_bitCount_0f7a4 : Room := { frames := 0, cells := 0, slots := 0, locals := 0 }
set_option maxHeartbeats 4000000 in
set_option maxRecDepth 100000 in
theorem k_J6_bitCount_0f7a4 (l : Launch) (D : va_G) (K : Nat → ClassId) (p0 : Int32) (out : Int32) (hf : f_J6_bitCount_0f7a4 p0 = out) : kI l D K .int yJ6_bitCount_0f7a4 wsJ6_bitCount_0f7a4 rmJ6_bitCount_0f7a4 [.int p0] ([] : va_W) out ([] : va_W) := by
  refine kI.of (cc := cJ6_bitCount_0f7a4) (maxL := 1) (by decide) rfl (Nat.le_of_ble_eq_true rfl) ?_
  intro p e s m args below meth c A H0 Q ls hx hb hml hown hts hK hN hA hP hD hS hl hret
  have hown : s.vm.findClass RJ6 = some m.cls := hown
  have hl : lv_has ls 1 [(0, .int p0)] := hl
  generalize hH : H0 = H at hP ⊢
  have hS : va_S A H0 H [] := by rw [← hH]; exact hS
  clear hH
  unfold f_J6_bitCount_0f7a4 at hf
  refine lv_iload_n hx hb dJ6_bitCount_0f7a4_0 rfl (lv_at hl 0 rfl) ?_
  refine lv_iload_n hx hb dJ6_bitCount_0f7a4_1 rfl (lv_at hl 0 rfl) ?_
  refine lv_iconst (v := 1) hx hb dJ6_bitCount_0f7a4_2 (by decide) ?_
  refine lv_iushr (v := ((p0.toUInt32 >>> ((1 : Int32).toUInt32 &&& Int32.toUInt32 31)).toInt32)) hx hb dJ6_bitCount_0f7a4_3 rfl ?_
  refine lv_ldcw hx hb hown (hts (.constant RJ6 265 (1431655765)) (List.mem_of_getElem? (i := 1) rfl)) dJ6_bitCount_0f7a4_4 ?_
  refine lv_iand hx hb dJ6_bitCount_0f7a4_7 ?_
  refine lv_isub hx hb dJ6_bitCount_0f7a4_8 ?_
  refine lv_istore_n (lv' := [(0, .int (p0 - (((p0.toUInt32 >>> ((1 : Int32).toUInt32 &&& Int32.toUInt32 31)).toInt32) &&& 1431655765)))]) hx hb dJ6_bitCount_0f7a4_9 rfl hl (by decide) rfl (fun ls hl => ?_)
  refine lv_iload_n hx hb dJ6_bitCount_0f7a4_10 rfl (lv_at hl 0 rfl) ?_
  refine lv_ldcw hx hb hown (hts (.constant RJ6 266 (858993459)) (List.mem_of_getElem? (i := 2) rfl)) dJ6_bitCount_0f7a4_11 ?_
  refine lv_iand hx hb dJ6_bitCount_0f7a4_14 ?_
  refine lv_iload_n hx hb dJ6_bitCount_0f7a4_15 rfl (lv_at hl 0 rfl) ?_
  refine lv_iconst (v := 2) hx hb dJ6_bitCount_0f7a4_16 (by decide) ?_
  refine lv_iushr (v := (((p0 - (((p0.toUInt32 >>> ((1 : Int32).toUInt32 &&& Int32.toUInt32 31)).toInt32) &&& 1431655765)).toUInt32 >>> ((2 : Int32).toUInt32 &&& Int32.toUInt32 31)).toInt32)) hx hb dJ6_bitCount_0f7a4_17 rfl ?_
  refine lv_ldcw hx hb hown (hts (.constant RJ6 266 (858993459)) (List.mem_of_getElem? (i := 2) rfl)) dJ6_bitCount_0f7a4_18 ?_
  refine lv_iand hx hb dJ6_bitCount_0f7a4_21 ?_
  refine lv_iadd hx hb dJ6_bitCount_0f7a4_22 ?_
  refine lv_istore_n (lv' := [(0, .int (((p0 - (((p0.toUInt32 >>> ((1 : Int32).toUInt32 &&& Int32.toUInt32 31)).toInt32) &&& 1431655765)) &&& 858993459) + ((((p0 - (((p0.toUInt32 >>> ((1 : Int32).toUInt32 &&& Int32.toUInt32 31)).toInt32) &&& 1431655765)).toUInt32 >>> ((2 : Int32).toUInt32 &&& Int32.toUInt32 31)).toInt32) &&& 858993459)))]) hx hb dJ6_bitCount_0f7a4_23 rfl hl (by decide) rfl (fun ls hl => ?_)
  refine lv_iload_n hx hb dJ6_bitCount_0f7a4_24 rfl (lv_at hl 0 rfl) ?_
  refine lv_iload_n hx hb dJ6_bitCount_0f7a4_25 rfl (lv_at hl 0 rfl) ?_
  refine lv_iconst (v := 4) hx hb dJ6_bitCount_0f7a4_26 (by decide) ?_
  refine lv_iushr (v := (((((p0 - (((p0.toUInt32 >>> ((1 : Int32).toUInt32 &&& Int32.toUInt32 31)).toInt32) &&& 1431655765)) &&& 858993459) + ((((p0 - (((p0.toUInt32 >>> ((1 : Int32).toUInt32 &&& Int32.toUInt32 31)).toInt32) &&& 1431655765)).toUInt32 >>> ((2 : Int32).toUInt32 &&& Int32.toUInt32 31)).toInt32) &&& 858993459)).toUInt32 >>> ((4 : Int32).toUInt32 &&& Int32.toUInt32 31)).toInt32)) hx hb dJ6_bitCount_0f7a4_27 rfl ?_
  refine lv_iadd hx hb dJ6_bitCount_0f7a4_28 ?_
  refine lv_ldcw hx hb hown (hts (.constant RJ6 267 (252645135)) (List.mem_of_getElem? (i := 3) rfl)) dJ6_bitCount_0f7a4_29 ?_
  refine lv_iand hx hb dJ6_bitCount_0f7a4_32 ?_
  refine lv_istore_n (lv' := [(0, .int (((((p0 - (((p0.toUInt32 >>> ((1 : Int32).toUInt32 &&& Int32.toUInt32 31)).toInt32) &&& 1431655765)) &&& 858993459) + ((((p0 - (((p0.toUInt32 >>> ((1 : Int32).toUInt32 &&& Int32.toUInt32 31)).toInt32) &&& 1431655765)).toUInt32 >>> ((2 : Int32).toUInt32 &&& Int32.toUInt32 31)).toInt32) &&& 858993459)) + (((((p0 - (((p0.toUInt32 >>> ((1 : Int32).toUInt32 &&& Int32.toUInt32 31)).toInt32) &&& 1431655765)) &&& 858993459) + ((((p0 - (((p0.toUInt32 >>> ((1 : Int32).toUInt32 &&& Int32.toUInt32 31)).toInt32) &&& 1431655765)).toUInt32 >>> ((2 : Int32).toUInt32 &&& Int32.toUInt32 31)).toInt32) &&& 858993459)).toUInt32 >>> ((4 : Int32).toUInt32 &&& Int32.toUInt32 31)).toInt32)) &&& 252645135))]) hx hb dJ6_bitCount_0f7a4_33 rfl hl (by decide) rfl (fun ls hl => ?_)
  refine lv_iload_n hx hb dJ6_bitCount_0f7a4_34 rfl (lv_at hl 0 rfl) ?_
  refine lv_iload_n hx hb dJ6_bitCount_0f7a4_35 rfl (lv_at hl 0 rfl) ?_
  refine lv_bipush (v := 8) hx hb dJ6_bitCount_0f7a4_36 (by decide) ?_
  refine lv_iushr (v := (((((((p0 - (((p0.toUInt32 >>> ((1 : Int32).toUInt32 &&& Int32.toUInt32 31)).toInt32) &&& 1431655765)) &&& 858993459) + ((((p0 - (((p0.toUInt32 >>> ((1 : Int32).toUInt32 &&& Int32.toUInt32 31)).toInt32) &&& 1431655765)).toUInt32 >>> ((2 : Int32).toUInt32 &&& Int32.toUInt32 31)).toInt32) &&& 858993459)) + (((((p0 - (((p0.toUInt32 >>> ((1 : Int32).toUInt32 &&& Int32.toUInt32 31)).toInt32) &&& 1431655765)) &&& 858993459) + ((((p0 - (((p0.toUInt32 >>> ((1 : Int32).toUInt32 &&& Int32.toUInt32 31)).toInt32) &&& 1431655765)).toUInt32 >>> ((2 : Int32).toUInt32 &&& Int32.toUInt32 31)).toInt32) &&& 858993459)).toUInt32 >>> ((4 : Int32).toUInt32 &&& Int32.toUInt32 31)).toInt32)) &&& 252645135).toUInt32 >>> ((8 : Int32).toUInt32 &&& Int32.toUInt32 31)).toInt32)) hx hb dJ6_bitCount_0f7a4_38 rfl ?_
  refine lv_iadd hx hb dJ6_bitCount_0f7a4_39 ?_
  refine lv_istore_n (lv' := [(0, .int ((((((p0 - (((p0.toUInt32 >>> ((1 : Int32).toUInt32 &&& Int32.toUInt32 31)).toInt32) &&& 1431655765)) &&& 858993459) + ((((p0 - (((p0.toUInt32 >>> ((1 : Int32).toUInt32 &&& Int32.toUInt32 31)).toInt32) &&& 1431655765)).toUInt32 >>> ((2 : Int32).toUInt32 &&& Int32.toUInt32 31)).toInt32) &&& 858993459)) + (((((p0 - (((p0.toUInt32 >>> ((1 : Int32).toUInt32 &&& Int32.toUInt32 31)).toInt32) &&& 1431655765)) &&& 858993459) + ((((p0 - (((p0.toUInt32 >>> ((1 : Int32).toUInt32 &&& Int32.toUInt32 31)).toInt32) &&& 1431655765)).toUInt32 >>> ((2 : Int32).toUInt32 &&& Int32.toUInt32 31)).toInt32) &&& 858993459)).toUInt32 >>> ((4 : Int32).toUInt32 &&& Int32.toUInt32 31)).toInt32)) &&& 252645135) + (((((((p0 - (((p0.toUInt32 >>> ((1 : Int32).toUInt32 &&& Int32.toUInt32 31)).toInt32) &&& 1431655765)) &&& 858993459) + ((((p0 - (((p0.toUInt32 >>> ((1 : Int32).toUInt32 &&& Int32.toUInt32 31)).toInt32) &&& 1431655765)).toUInt32 >>> ((2 : Int32).toUInt32 &&& Int32.toUInt32 31)).toInt32) &&& 858993459)) + (((((p0 - (((p0.toUInt32 >>> ((1 : Int32).toUInt32 &&& Int32.toUInt32 31)).toInt32) &&& 1431655765)) &&& 858993459) + ((((p0 - (((p0.toUInt32 >>> ((1 : Int32).toUInt32 &&& Int32.toUInt32 31)).toInt32) &&& 1431655765)).toUInt32 >>> ((2 : Int32).toUInt32 &&& Int32.toUInt32 31)).toInt32) &&& 858993459)).toUInt32 >>> ((4 : Int32).toUInt32 &&& Int32.toUInt32 31)).toInt32)) &&& 252645135).toUInt32 >>> ((8 : Int32).toUInt32 &&& Int32.toUInt32 31)).toInt32)))]) hx hb dJ6_bitCount_0f7a4_40 rfl hl (by decide) rfl (fun ls hl => ?_)
  refine lv_iload_n hx hb dJ6_bitCount_0f7a4_41 rfl (lv_at hl 0 rfl) ?_
  refine lv_iload_n hx hb dJ6_bitCount_0f7a4_42 rfl (lv_at hl 0 rfl) ?_
  refine lv_bipush (v := 16) hx hb dJ6_bitCount_0f7a4_43 (by decide) ?_
  refine lv_iushr (v := ((((((((p0 - (((p0.toUInt32 >>> ((1 : Int32).toUInt32 &&& Int32.toUInt32 31)).toInt32) &&& 1431655765)) &&& 858993459) + ((((p0 - (((p0.toUInt32 >>> ((1 : Int32).toUInt32 &&& Int32.toUInt32 31)).toInt32) &&& 1431655765)).toUInt32 >>> ((2 : Int32).toUInt32 &&& Int32.toUInt32 31)).toInt32) &&& 858993459)) + (((((p0 - (((p0.toUInt32 >>> ((1 : Int32).toUInt32 &&& Int32.toUInt32 31)).toInt32) &&& 1431655765)) &&& 858993459) + ((((p0 - (((p0.toUInt32 >>> ((1 : Int32).toUInt32 &&& Int32.toUInt32 31)).toInt32) &&& 1431655765)).toUInt32 >>> ((2 : Int32).toUInt32 &&& Int32.toUInt32 31)).toInt32) &&& 858993459)).toUInt32 >>> ((4 : Int32).toUInt32 &&& Int32.toUInt32 31)).toInt32)) &&& 252645135) + (((((((p0 - (((p0.toUInt32 >>> ((1 : Int32).toUInt32 &&& Int32.toUInt32 31)).toInt32) &&& 1431655765)) &&& 858993459) + ((((p0 - (((p0.toUInt32 >>> ((1 : Int32).toUInt32 &&& Int32.toUInt32 31)).toInt32) &&& 1431655765)).toUInt32 >>> ((2 : Int32).toUInt32 &&& Int32.toUInt32 31)).toInt32) &&& 858993459)) + (((((p0 - (((p0.toUInt32 >>> ((1 : Int32).toUInt32 &&& Int32.toUInt32 31)).toInt32) &&& 1431655765)) &&& 858993459) + ((((p0 - (((p0.toUInt32 >>> ((1 : Int32).toUInt32 &&& Int32.toUInt32 31)).toInt32) &&& 1431655765)).toUInt32 >>> ((2 : Int32).toUInt32 &&& Int32.toUInt32 31)).toInt32) &&& 858993459)).toUInt32 >>> ((4 : Int32).toUInt32 &&& Int32.toUInt32 31)).toInt32)) &&& 252645135).toUInt32 >>> ((8 : Int32).toUInt32 &&& Int32.toUInt32 31)).toInt32)).toUInt32 >>> ((16 : Int32).toUInt32 &&& Int32.toUInt32 31)).toInt32)) hx hb dJ6_bitCount_0f7a4_45 rfl ?_
  refine lv_iadd hx hb dJ6_bitCount_0f7a4_46 ?_
  refine lv_istore_n (lv' := [(0, .int (((((((p0 - (((p0.toUInt32 >>> ((1 : Int32).toUInt32 &&& Int32.toUInt32 31)).toInt32) &&& 1431655765)) &&& 858993459) + ((((p0 - (((p0.toUInt32 >>> ((1 : Int32).toUInt32 &&& Int32.toUInt32 31)).toInt32) &&& 1431655765)).toUInt32 >>> ((2 : Int32).toUInt32 &&& Int32.toUInt32 31)).toInt32) &&& 858993459)) + (((((p0 - (((p0.toUInt32 >>> ((1 : Int32).toUInt32 &&& Int32.toUInt32 31)).toInt32) &&& 1431655765)) &&& 858993459) + ((((p0 - (((p0.toUInt32 >>> ((1 : Int32).toUInt32 &&& Int32.toUInt32 31)).toInt32) &&& 1431655765)).toUInt32 >>> ((2 : Int32).toUInt32 &&& Int32.toUInt32 31)).toInt32) &&& 858993459)).toUInt32 >>> ((4 : Int32).toUInt32 &&& Int32.toUInt32 31)).toInt32)) &&& 252645135) + (((((((p0 - (((p0.toUInt32 >>> ((1 : Int32).toUInt32 &&& Int32.toUInt32 31)).toInt32) &&& 1431655765)) &&& 858993459) + ((((p0 - (((p0.toUInt32 >>> ((1 : Int32).toUInt32 &&& Int32.toUInt32 31)).toInt32) &&& 1431655765)).toUInt32 >>> ((2 : Int32).toUInt32 &&& Int32.toUInt32 31)).toInt32) &&& 858993459)) + (((((p0 - (((p0.toUInt32 >>> ((1 : Int32).toUInt32 &&& Int32.toUInt32 31)).toInt32) &&& 1431655765)) &&& 858993459) + ((((p0 - (((p0.toUInt32 >>> ((1 : Int32).toUInt32 &&& Int32.toUInt32 31)).toInt32) &&& 1431655765)).toUInt32 >>> ((2 : Int32).toUInt32 &&& Int32.toUInt32 31)).toInt32) &&& 858993459)).toUInt32 >>> ((4 : Int32).toUInt32 &&& Int32.toUInt32 31)).toInt32)) &&& 252645135).toUInt32 >>> ((8 : Int32).toUInt32 &&& Int32.toUInt32 31)).toInt32)) + ((((((((p0 - (((p0.toUInt32 >>> ((1 : Int32).toUInt32 &&& Int32.toUInt32 31)).toInt32) &&& 1431655765)) &&& 858993459) + ((((p0 - (((p0.toUInt32 >>> ((1 : Int32).toUInt32 &&& Int32.toUInt32 31)).toInt32) &&& 1431655765)).toUInt32 >>> ((2 : Int32).toUInt32 &&& Int32.toUInt32 31)).toInt32) &&& 858993459)) + (((((p0 - (((p0.toUInt32 >>> ((1 : Int32).toUInt32 &&& Int32.toUInt32 31)).toInt32) &&& 1431655765)) &&& 858993459) + ((((p0 - (((p0.toUInt32 >>> ((1 : Int32).toUInt32 &&& Int32.toUInt32 31)).toInt32) &&& 1431655765)).toUInt32 >>> ((2 : Int32).toUInt32 &&& Int32.toUInt32 31)).toInt32) &&& 858993459)).toUInt32 >>> ((4 : Int32).toUInt32 &&& Int32.toUInt32 31)).toInt32)) &&& 252645135) + (((((((p0 - (((p0.toUInt32 >>> ((1 : Int32).toUInt32 &&& Int32.toUInt32 31)).toInt32) &&& 1431655765)) &&& 858993459) + ((((p0 - (((p0.toUInt32 >>> ((1 : Int32).toUInt32 &&& Int32.toUInt32 31)).toInt32) &&& 1431655765)).toUInt32 >>> ((2 : Int32).toUInt32 &&& Int32.toUInt32 31)).toInt32) &&& 858993459)) + (((((p0 - (((p0.toUInt32 >>> ((1 : Int32).toUInt32 &&& Int32.toUInt32 31)).toInt32) &&& 1431655765)) &&& 858993459) + ((((p0 - (((p0.toUInt32 >>> ((1 : Int32).toUInt32 &&& Int32.toUInt32 31)).toInt32) &&& 1431655765)).toUInt32 >>> ((2 : Int32).toUInt32 &&& Int32.toUInt32 31)).toInt32) &&& 858993459)).toUInt32 >>> ((4 : Int32).toUInt32 &&& Int32.toUInt32 31)).toInt32)) &&& 252645135).toUInt32 >>> ((8 : Int32).toUInt32 &&& Int32.toUInt32 31)).toInt32)).toUInt32 >>> ((16 : Int32).toUInt32 &&& Int32.toUInt32 31)).toInt32)))]) hx hb dJ6_bitCount_0f7a4_47 rfl hl (by decide) rfl (fun ls hl => ?_)
  refine lv_iload_n hx hb dJ6_bitCount_0f7a4_48 rfl (lv_at hl 0 rfl) ?_
  refine lv_bipush (v := 63) hx hb dJ6_bitCount_0f7a4_49 (by decide) ?_
  refine lv_iand hx hb dJ6_bitCount_0f7a4_51 ?_
  subst hf
  exact hret rfl rfl rfl hP hD hS dJ6_bitCount_0f7a4_52
def f_X4_isWithin (p0 : Int32) (p1 : Int32) (p2 : Int32) : Int32 := if p0 < p1 then (0) else (if p2 < p0 then (0) else (1))
theorem yd_X4_isWithin : yX4_isWithin.cls ≠ "java/lang/invoke/MethodHandle" ∧ yX4_isWithin.cls ≠ "java/lang/invoke/VarHandle" ∧ (parseMethodDescriptor yX4_isWithin.desc).map (fun d => d.parameters.length) = some 3 := by decide +kernel
abbrev rmX4_isWithin : Room := { frames := 0, cells := 0, slots := 0, locals := 0 }
set_option maxHeartbeats 4000000 in
set_option maxRecDepth 100000 in
theorem k_X4_isWithin (l : Launch) (D : va_G) (K : Nat → ClassId) (p0 : Int32) (p1 : Int32) (p2 : Int32) (out : Int32) (hf : f_X4_isWithin p0 p1 p2 = out) : kI l D K .boolean yX4_isWithin wsX4_isWithin rmX4_isWithin [.int p0, .int p1, .int p2] ([] : va_W) out ([] : va_W) := by
  refine kI.of (cc := cX4_isWithin) (maxL := 3) (by decide) rfl (Nat.le_of_ble_eq_true rfl) ?_
  intro p e s m args below meth c A H0 Q ls hx hb hml hown hts hK hN hA hP hD hS hl hret
  have hown : s.vm.findClass RX4 = some m.cls := hown
  have hl : lv_has ls 3 [(0, .int p0), (1, .int p1), (2, .int p2)] := hl
  generalize hH : H0 = H at hP ⊢
  have hS : va_S A H0 H [] := by rw [← hH]; exact hS
  clear hH
  unfold f_X4_isWithin at hf
  refine lv_iload_n hx hb dX4_isWithin_0 rfl (lv_at hl 1 rfl) ?_
  refine lv_iload_n hx hb dX4_isWithin_1 rfl (lv_at hl 0 rfl) ?_
  refine lv_icmp_gt (tgt := 14) hx hb dX4_isWithin_2 (by decide) (fun c1 => ?_) (fun c1 => ?_)
  · rw [if_pos c1] at hf
    refine lv_iconst (v := 0) hx hb dX4_isWithin_14 (by decide) ?_
    subst hf
    exact hret rfl rfl rfl hP hD hS dX4_isWithin_15
  · rw [if_neg c1] at hf
    refine lv_iload_n hx hb dX4_isWithin_5 rfl (lv_at hl 0 rfl) ?_
    refine lv_iload_n hx hb dX4_isWithin_6 rfl (lv_at hl 2 rfl) ?_
    refine lv_icmp_gt (tgt := 14) hx hb dX4_isWithin_7 (by decide) (fun c2 => ?_) (fun c2 => ?_)
    · rw [if_pos c2] at hf
      refine lv_iconst (v := 0) hx hb dX4_isWithin_14 (by decide) ?_
      subst hf
      exact hret rfl rfl rfl hP hD hS dX4_isWithin_15
    · rw [if_neg c2] at hf
      refine lv_iconst (v := 1) hx hb dX4_isWithin_10 (by decide) ?_
      refine lv_goto (tgt := 15) hx hb dX4_isWithin_11 (by decide) ?_
      subst hf
      exact hret rfl rfl rfl hP hD hS dX4_isWithin_15
def f_X4_isWord (p0 : Int32) : Int32 := bd (f_X4_isWithin p0 (0) (11)) (fun o1 => o1)
theorem yd_X4_isWord : yX4_isWord.cls ≠ "java/lang/invoke/MethodHandle" ∧ yX4_isWord.cls ≠ "java/lang/invoke/VarHandle" ∧ (parseMethodDescriptor yX4_isWord.desc).map (fun d => d.parameters.length) = some 1 := by decide +kernel
abbrev rmX4_isWord : Room := { frames := 1, cells := 0, slots := 0, locals := 22 }
set_option maxHeartbeats 4000000 in
set_option maxRecDepth 100000 in
theorem k_X4_isWord (l : Launch) (D : va_G) (K : Nat → ClassId) (p0 : Int32) (out : Int32) (hf : f_X4_isWord p0 = out) : kI l D K .boolean yX4_isWord wsX4_isWord rmX4_isWord [.int p0] ([] : va_W) out ([] : va_W) := by
  refine kI.of (cc := cX4_isWord) (maxL := 1) (by decide) rfl (Nat.le_of_ble_eq_true rfl) ?_
  intro p e s m args below meth c A H0 Q ls hx hb hml hown hts hK hN hA hP hD hS hl hret
  have hown : s.vm.findClass RX4 = some m.cls := hown
  have hl : lv_has ls 1 [(0, .int p0)] := hl
  generalize hH : H0 = H at hP ⊢
  have hS : va_S A H0 H [] := by rw [← hH]; exact hS
  clear hH
  unfold f_X4_isWord at hf
  refine lv_iload_n hx hb dX4_isWord_0 rfl (lv_at hl 0 rfl) ?_
  refine lv_iconst (v := 0) hx hb dX4_isWord_1 (by decide) ?_
  refine lv_bipush (v := 11) hx hb dX4_isWord_2 (by decide) ?_
  obtain ⟨o1, ho1, hf⟩ := bd_el hf
  refine kc0_i (D := D) (va_runS (As := [.int p0, .int 0, .int 11]) (rest := []) ⟨hx, hb, hml, hown, hts⟩ ((k_X4_isWithin l D K p0 (0) (11) o1 ho1) H.size) (va_cwS 3 hts gX4_isWord_X4_isWithin rfl rfl rfl yd_X4_isWithin ⟨Nat.le_of_ble_eq_true rfl, Nat.le_of_ble_eq_true rfl⟩) (kPreS va_P_nil (va_D_nil (A := fun _ => True)) hK hN) rfl rfl hl.1 rfl (lv_room (Nat.le_of_ble_eq_true rfl)) dX4_isWord_4 ⟨Nat.le_of_ble_eq_true rfl, Nat.le_of_ble_eq_true rfl⟩) hP hS hA (fun hzo1 H locs hP hS => ?_)
  subst hf
  exact hret rfl rfl hzo1 hP hD hS dX4_isWord_7
def f_X4_isSpeaker (p0 : Int32) : Int32 := bd (f_X4_isWithin p0 (0) (3)) (fun o1 => o1)
theorem yd_X4_isSpeaker : yX4_isSpeaker.cls ≠ "java/lang/invoke/MethodHandle" ∧ yX4_isSpeaker.cls ≠ "java/lang/invoke/VarHandle" ∧ (parseMethodDescriptor yX4_isSpeaker.desc).map (fun d => d.parameters.length) = some 1 := by decide +kernel
abbrev rmX4_isSpeaker : Room := { frames := 1, cells := 0, slots := 0, locals := 22 }
set_option maxHeartbeats 4000000 in
set_option maxRecDepth 100000 in
theorem k_X4_isSpeaker (l : Launch) (D : va_G) (K : Nat → ClassId) (p0 : Int32) (out : Int32) (hf : f_X4_isSpeaker p0 = out) : kI l D K .boolean yX4_isSpeaker wsX4_isSpeaker rmX4_isSpeaker [.int p0] ([] : va_W) out ([] : va_W) := by
  refine kI.of (cc := cX4_isSpeaker) (maxL := 1) (by decide) rfl (Nat.le_of_ble_eq_true rfl) ?_
  intro p e s m args below meth c A H0 Q ls hx hb hml hown hts hK hN hA hP hD hS hl hret
  have hown : s.vm.findClass RX4 = some m.cls := hown
  have hl : lv_has ls 1 [(0, .int p0)] := hl
  generalize hH : H0 = H at hP ⊢
  have hS : va_S A H0 H [] := by rw [← hH]; exact hS
  clear hH
  unfold f_X4_isSpeaker at hf
  refine lv_iload_n hx hb dX4_isSpeaker_0 rfl (lv_at hl 0 rfl) ?_
  refine lv_iconst (v := 0) hx hb dX4_isSpeaker_1 (by decide) ?_
  refine lv_iconst (v := 3) hx hb dX4_isSpeaker_2 (by decide) ?_
  obtain ⟨o1, ho1, hf⟩ := bd_el hf
  refine kc0_i (D := D) (va_runS (As := [.int p0, .int 0, .int 3]) (rest := []) ⟨hx, hb, hml, hown, hts⟩ ((k_X4_isWithin l D K p0 (0) (3) o1 ho1) H.size) (va_cwS 3 hts gX4_isSpeaker_X4_isWithin rfl rfl rfl yd_X4_isWithin ⟨Nat.le_of_ble_eq_true rfl, Nat.le_of_ble_eq_true rfl⟩) (kPreS va_P_nil (va_D_nil (A := fun _ => True)) hK hN) rfl rfl hl.1 rfl (lv_room (Nat.le_of_ble_eq_true rfl)) dX4_isSpeaker_3 ⟨Nat.le_of_ble_eq_true rfl, Nat.le_of_ble_eq_true rfl⟩) hP hS hA (fun hzo1 H locs hP hS => ?_)
  subst hf
  exact hret rfl rfl hzo1 hP hD hS dX4_isSpeaker_6
def f_X4_isSet (p0 : Int32) : Int32 := bd (f_X4_isWithin p0 (0) (4095)) (fun o1 => o1)
theorem yd_X4_isSet : yX4_isSet.cls ≠ "java/lang/invoke/MethodHandle" ∧ yX4_isSet.cls ≠ "java/lang/invoke/VarHandle" ∧ (parseMethodDescriptor yX4_isSet.desc).map (fun d => d.parameters.length) = some 1 := by decide +kernel
abbrev rmX4_isSet : Room := { frames := 1, cells := 0, slots := 0, locals := 22 }
set_option maxHeartbeats 4000000 in
set_option maxRecDepth 100000 in
theorem k_X4_isSet (l : Launch) (D : va_G) (K : Nat → ClassId) (p0 : Int32) (out : Int32) (hf : f_X4_isSet p0 = out) : kI l D K .boolean yX4_isSet wsX4_isSet rmX4_isSet [.int p0] ([] : va_W) out ([] : va_W) := by
  refine kI.of (cc := cX4_isSet) (maxL := 1) (by decide) rfl (Nat.le_of_ble_eq_true rfl) ?_
  intro p e s m args below meth c A H0 Q ls hx hb hml hown hts hK hN hA hP hD hS hl hret
  have hown : s.vm.findClass RX4 = some m.cls := hown
  have hl : lv_has ls 1 [(0, .int p0)] := hl
  generalize hH : H0 = H at hP ⊢
  have hS : va_S A H0 H [] := by rw [← hH]; exact hS
  clear hH
  unfold f_X4_isSet at hf
  refine lv_iload_n hx hb dX4_isSet_0 rfl (lv_at hl 0 rfl) ?_
  refine lv_iconst (v := 0) hx hb dX4_isSet_1 (by decide) ?_
  refine lv_sipush (v := 4095) hx hb dX4_isSet_2 (by decide) ?_
  obtain ⟨o1, ho1, hf⟩ := bd_el hf
  refine kc0_i (D := D) (va_runS (As := [.int p0, .int 0, .int 4095]) (rest := []) ⟨hx, hb, hml, hown, hts⟩ ((k_X4_isWithin l D K p0 (0) (4095) o1 ho1) H.size) (va_cwS 3 hts gX4_isSet_X4_isWithin rfl rfl rfl yd_X4_isWithin ⟨Nat.le_of_ble_eq_true rfl, Nat.le_of_ble_eq_true rfl⟩) (kPreS va_P_nil (va_D_nil (A := fun _ => True)) hK hN) rfl rfl hl.1 rfl (lv_room (Nat.le_of_ble_eq_true rfl)) dX4_isSet_5 ⟨Nat.le_of_ble_eq_true rfl, Nat.le_of_ble_eq_true rfl⟩) hP hS hA (fun hzo1 H locs hP hS => ?_)
  subst hf
  exact hret rfl rfl hzo1 hP hD hS dX4_isSet_8
def f_X4_isIn (p0 : Int32) (p1 : Int32) : Int32 := if ((p1 >>> (p0 &&& 31)) &&& 1) = 1 then (1) else (0)
theorem yd_X4_isIn : yX4_isIn.cls ≠ "java/lang/invoke/MethodHandle" ∧ yX4_isIn.cls ≠ "java/lang/invoke/VarHandle" ∧ (parseMethodDescriptor yX4_isIn.desc).map (fun d => d.parameters.length) = some 2 := by decide +kernel
abbrev rmX4_isIn : Room := { frames := 0, cells := 0, slots := 0, locals := 0 }
set_option maxHeartbeats 4000000 in
set_option maxRecDepth 100000 in
theorem k_X4_isIn (l : Launch) (D : va_G) (K : Nat → ClassId) (p0 : Int32) (p1 : Int32) (out : Int32) (hf : f_X4_isIn p0 p1 = out) : kI l D K .boolean yX4_isIn wsX4_isIn rmX4_isIn [.int p0, .int p1] ([] : va_W) out ([] : va_W) := by
  refine kI.of (cc := cX4_isIn) (maxL := 2) (by decide) rfl (Nat.le_of_ble_eq_true rfl) ?_
  intro p e s m args below meth c A H0 Q ls hx hb hml hown hts hK hN hA hP hD hS hl hret
  have hown : s.vm.findClass RX4 = some m.cls := hown
  have hl : lv_has ls 2 [(0, .int p0), (1, .int p1)] := hl
  generalize hH : H0 = H at hP ⊢
  have hS : va_S A H0 H [] := by rw [← hH]; exact hS
  clear hH
  unfold f_X4_isIn at hf
  refine lv_iload_n hx hb dX4_isIn_0 rfl (lv_at hl 1 rfl) ?_
  refine lv_iload_n hx hb dX4_isIn_1 rfl (lv_at hl 0 rfl) ?_
  refine lv_ishr hx hb dX4_isIn_2 ?_
  refine lv_iconst (v := 1) hx hb dX4_isIn_3 (by decide) ?_
  refine lv_iand hx hb dX4_isIn_4 ?_
  refine lv_iconst (v := 1) hx hb dX4_isIn_5 (by decide) ?_
  refine lv_icmp_ne (tgt := 13) hx hb dX4_isIn_6 (by decide) (fun c1 => ?_) (fun c1 => ?_)
  · rw [if_neg c1] at hf
    refine lv_iconst (v := 0) hx hb dX4_isIn_13 (by decide) ?_
    subst hf
    exact hret rfl rfl rfl hP hD hS dX4_isIn_14
  · rw [if_pos c1] at hf
    refine lv_iconst (v := 1) hx hb dX4_isIn_9 (by decide) ?_
    refine lv_goto (tgt := 14) hx hb dX4_isIn_10 (by decide) ?_
    subst hf
    exact hret rfl rfl rfl hP hD hS dX4_isIn_14
def s_X4_power_5 (p0 : Int64) (p1 : Int32) (x : Int64 × Int32) : Option ((Int64 × Int32) ⊕ (Int64 × Int32)) := if p1 ≤ x.2 then (some (.inr (x.1, x.2))) else (some (.inl ((x.1 * p0), (x.2 + 1))))
def f_X4_power (p0 : Int64) (p1 : Int32) : Option (Int64) := ob (wh (s_X4_power_5 p0 p1) 5000 (1, 0)) (fun r1 => some r1.1)
theorem yd_X4_power : yX4_power.cls ≠ "java/lang/invoke/MethodHandle" ∧ yX4_power.cls ≠ "java/lang/invoke/VarHandle" ∧ (parseMethodDescriptor yX4_power.desc).map (fun d => d.parameters.length) = some 2 := by decide +kernel
abbrev rmX4_power : Room := { frames := 0, cells := 0, slots := 0, locals := 0 }
set_option maxHeartbeats 4000000 in
set_option maxRecDepth 100000 in
theorem k_X4_power (l : Launch) (D : va_G) (K : Nat → ClassId) (p0 : Int64) (p1 : Int32) (out : Int64) (hf : f_X4_power p0 p1 = some out) : kL l D K yX4_power wsX4_power rmX4_power [.long p0, .int p1] ([] : va_W) out ([] : va_W) := by
  refine kL.of (cc := cX4_power) (maxL := 6) (by decide) rfl (Nat.le_of_ble_eq_true rfl) ?_
  intro p e s m args below meth c A H0 Q ls hx hb hml hown hts hK hN hA hP hD hS hl hret
  have hown : s.vm.findClass RX4 = some m.cls := hown
  have hl : lv_has ls 6 [(0, .long p0), (2, .int p1)] := hl
  generalize hH : H0 = H at hP ⊢
  have hS : va_S A H0 H [] := by rw [← hH]; exact hS
  clear hH
  unfold f_X4_power at hf
  refine lv_lconst (v := 1) hx hb dX4_power_0 (by decide) ?_
  refine lv_lstore_n (lv' := [(3, .long 1), (0, .long p0), (2, .int p1)]) hx hb dX4_power_1 rfl hl (by decide) rfl (fun ls hl => ?_)
  refine lv_iconst (v := 0) hx hb dX4_power_2 (by decide) ?_
  refine lv_istore (lv' := [(5, .int 0), (3, .long 1), (0, .long p0), (2, .int p1)]) hx hb dX4_power_3 hl (by decide) rfl (fun ls hl => ?_)
  obtain ⟨r1, hr1, hf⟩ := ob_el hf
  have post5 : ∀ (e5_l3 : Int64) (e5_l5 : Int32) (H : Heap) (locs : List Loc) (ls : Array Slot), (some e5_l3) = some out → va_P D vwCl ([] : va_W) H → va_D A ([] : va_W) → va_S A H0 H locs → lv_has ls 6 [(5, .int e5_l5), (3, .long e5_l3), (0, .long p0), (2, .int p1)] → W p l e rmX4_power s m args below meth c H locs 0 0 Q (F0 m 21 ls []) := by
    intro e5_l3 e5_l5 H locs ls hf hP hD hS hl
    refine lv_lload_n hx hb dX4_power_21 rfl (lv_at hl 1 rfl) ?_
    obtain rfl := Option.some.inj hf
    exact hret rfl rfl hP hD hS dX4_power_22
  have lp5 : ∀ (fu : Nat) (x5_l3 : Int64) (x5_l5 : Int32) (H : Heap) (locs : List Loc) (ls : Array Slot), wh (s_X4_power_5 p0 p1) fu (x5_l3, x5_l5) = some r1 → va_P D vwCl ([] : va_W) H → va_D A ([] : va_W) → va_S A H0 H locs → lv_has ls 6 [(5, .int x5_l5), (3, .long x5_l3), (0, .long p0), (2, .int p1)] → W p l e rmX4_power s m args below meth c H locs 0 0 Q (F0 m 5 ls []) := by
    intro fu
    induction fu with
    | zero => intro x5_l3 x5_l5 H locs ls hw5; cases hw5
    | succ fu ih5 =>
      intro x5_l3 x5_l5 H locs ls hw5 hP hD hS hl
      obtain ⟨o5_, hs5, hw5⟩ := wh_el hw5
      unfold s_X4_power_5 at hs5
      dsimp only at hs5
      refine lv_iload hx hb dX4_power_5 (lv_at hl 0 rfl) ?_
      refine lv_iload_n hx hb dX4_power_7 rfl (lv_at hl 3 rfl) ?_
      refine lv_icmp_ge (tgt := 21) hx hb dX4_power_8 (by decide) (fun c2 => ?_) (fun c2 => ?_)
      · rw [if_pos c2] at hs5
        obtain rfl := Option.some.inj hs5
        have e9 := Option.some.inj hw5
        rw [← e9] at hf
        exact post5 _ _ _ _ _ hf hP hD hS (lv_sub hl [0, 1, 2, 3] rfl)
      · rw [if_neg c2] at hs5
        refine lv_lload_n hx hb dX4_power_11 rfl (lv_at hl 1 rfl) ?_
        refine lv_lload_n hx hb dX4_power_12 rfl (lv_at hl 2 rfl) ?_
        refine lv_lmul hx hb dX4_power_13 ?_
        refine lv_lstore_n (lv' := [(3, .long (x5_l3 * p0)), (5, .int x5_l5), (0, .long p0), (2, .int p1)]) hx hb dX4_power_14 rfl hl (by decide) rfl (fun ls hl => ?_)
        refine lv_iinc (v := (x5_l5 + 1)) (lv' := [(5, .int (x5_l5 + 1)), (3, .long (x5_l3 * p0)), (0, .long p0), (2, .int p1)]) hx hb dX4_power_15 hl (k := 1) rfl (by rfl) (by decide) rfl (fun ls hl => ?_)
        refine lv_goto (tgt := 5) hx hb dX4_power_18 (by decide) ?_
        obtain rfl := Option.some.inj hs5
        exact ih5 _ _ _ _ _ hw5 hP hD hS (lv_sub hl [0, 1, 2, 3] rfl)
  exact lp5 5000 _ _ _ _ _ hr1 hP hD hS (lv_sub hl [0, 1, 2, 3] rfl)
def s_X4_sumOf_4 (n : Nat) (vf : Nat → Int32) (x : Int32 × Int32) : Option ((Int32 × Int32) ⊕ (Int32 × Int32)) := if (Int32.ofNat n) ≤ x.2 then (some (.inr (x.1, x.2))) else (chk x.2 n (some (.inl ((x.1 + (vf (x.2).toNatClampNeg)), (x.2 + 1)))))
def f_X4_sumOf (n : Nat) (vf : Nat → Int32) : Option (Int32) := ob (wh (s_X4_sumOf_4 n vf) 5000 (0, 0)) (fun r1 => some r1.1)
theorem yd_X4_sumOf : yX4_sumOf.cls ≠ "java/lang/invoke/MethodHandle" ∧ yX4_sumOf.cls ≠ "java/lang/invoke/VarHandle" ∧ (parseMethodDescriptor yX4_sumOf.desc).map (fun d => d.parameters.length) = some 1 := by decide +kernel
abbrev rmX4_sumOf : Room := { frames := 0, cells := 0, slots := 0, locals := 0 }
set_option maxHeartbeats 4000000 in
set_option maxRecDepth 100000 in
theorem k_X4_sumOf (l : Launch) (D : va_G) (K : Nat → ClassId) (ai : Nat) (n : Nat) (vf : Nat → Int32) (out : Int32) (hf : f_X4_sumOf n vf = some out) : kI l D K .int yX4_sumOf wsX4_sumOf rmX4_sumOf [.ref ai] (iaW K ai n vf) out (iaW K ai n vf) := by
  refine kI.of (cc := cX4_sumOf) (maxL := 3) (by decide) rfl (Nat.le_of_ble_eq_true rfl) ?_
  intro p e s m args below meth c A H0 Q ls hx hb hml hown hts hK hN hA hP hD hS hl hret
  have hown : s.vm.findClass RX4 = some m.cls := hown
  have hl : lv_has ls 3 [(0, .ref ai)] := hl
  generalize hH : H0 = H at hP ⊢
  have hS : va_S A H0 H [] := by rw [← hH]; exact hS
  clear hH
  unfold f_X4_sumOf at hf
  refine lv_iconst (v := 0) hx hb dX4_sumOf_0 (by decide) ?_
  refine lv_istore_n (lv' := [(1, .int 0), (0, .ref ai)]) hx hb dX4_sumOf_1 rfl hl (by decide) rfl (fun ls hl => ?_)
  refine lv_iconst (v := 0) hx hb dX4_sumOf_2 (by decide) ?_
  refine lv_istore_n (lv' := [(2, .int 0), (1, .int 0), (0, .ref ai)]) hx hb dX4_sumOf_3 rfl hl (by decide) rfl (fun ls hl => ?_)
  obtain ⟨r1, hr1, hf⟩ := ob_el hf
  have post4 : ∀ (e4_l1 : Int32) (e4_l2 : Int32) (H : Heap) (locs : List Loc) (ls : Array Slot), (some e4_l1) = some out → va_P D vwCl (iaW K ai n vf) H → va_D A (iaW K ai n vf) → va_S A H0 H locs → lv_has ls 3 [(2, .int e4_l2), (1, .int e4_l1), (0, .ref ai)] → W p l e rmX4_sumOf s m args below meth c H locs 0 0 Q (F0 m 22 ls []) := by
    intro e4_l1 e4_l2 H locs ls hf hP hD hS hl
    refine lv_iload_n hx hb dX4_sumOf_22 rfl (lv_at hl 1 rfl) ?_
    obtain rfl := Option.some.inj hf
    exact hret rfl rfl rfl hP hD hS dX4_sumOf_23
  have lp4 : ∀ (fu : Nat) (x4_l1 : Int32) (x4_l2 : Int32) (H : Heap) (locs : List Loc) (ls : Array Slot), wh (s_X4_sumOf_4 n vf) fu (x4_l1, x4_l2) = some r1 → va_P D vwCl (iaW K ai n vf) H → va_D A (iaW K ai n vf) → va_S A H0 H locs → lv_has ls 3 [(2, .int x4_l2), (1, .int x4_l1), (0, .ref ai)] → W p l e rmX4_sumOf s m args below meth c H locs 0 0 Q (F0 m 4 ls []) := by
    intro fu
    induction fu with
    | zero => intro x4_l1 x4_l2 H locs ls hw4; cases hw4
    | succ fu ih4 =>
      intro x4_l1 x4_l2 H locs ls hw4 hP hD hS hl
      obtain ⟨o4_, hs4, hw4⟩ := wh_el hw4
      unfold s_X4_sumOf_4 at hs4
      dsimp only at hs4
      refine lv_iload_n hx hb dX4_sumOf_4 rfl (lv_at hl 0 rfl) ?_
      refine lv_aload_n hx hb dX4_sumOf_5 rfl (lv_at hl 2 rfl) ?_
      refine va_alen (D := D) (v := (Int32.ofNat n)) hx hb hK hP 0 0 rfl rfl rfl dX4_sumOf_6 ?_
      refine lv_icmp_ge (tgt := 22) hx hb dX4_sumOf_7 (by decide) (fun c2 => ?_) (fun c2 => ?_)
      · rw [if_pos c2] at hs4
        obtain rfl := Option.some.inj hs4
        have e9 := Option.some.inj hw4
        rw [← e9] at hf
        exact post4 _ _ _ _ _ hf hP hD hS (lv_sub hl [0, 1, 2] rfl)
      · rw [if_neg c2] at hs4
        refine lv_iload_n hx hb dX4_sumOf_10 rfl (lv_at hl 1 rfl) ?_
        refine lv_aload_n hx hb dX4_sumOf_11 rfl (lv_at hl 2 rfl) ?_
        refine lv_iload_n hx hb dX4_sumOf_12 rfl (lv_at hl 0 rfl) ?_
        obtain ⟨v3, hs4⟩ := chk_el hs4
        refine va_iald (D := D) (f := vf) hx hb hK hP 0 0 rfl rfl v3 dX4_sumOf_13 ?_
        refine lv_iadd hx hb dX4_sumOf_14 ?_
        refine lv_istore_n (lv' := [(1, .int (x4_l1 + (vf (x4_l2).toNatClampNeg))), (2, .int x4_l2), (0, .ref ai)]) hx hb dX4_sumOf_15 rfl hl (by decide) rfl (fun ls hl => ?_)
        refine lv_iinc (v := (x4_l2 + 1)) (lv' := [(2, .int (x4_l2 + 1)), (1, .int (x4_l1 + (vf (x4_l2).toNatClampNeg))), (0, .ref ai)]) hx hb dX4_sumOf_16 hl (k := 1) rfl (by rfl) (by decide) rfl (fun ls hl => ?_)
        refine lv_goto (tgt := 4) hx hb dX4_sumOf_19 (by decide) ?_
        obtain rfl := Option.some.inj hs4
        exact ih4 _ _ _ _ _ hw4 hP hD hS (lv_sub hl [0, 1, 2] rfl)
  exact lp4 5000 _ _ _ _ _ hr1 hP hD hS (lv_sub hl [0, 1, 2] rfl)
def s_X4_copyRow_2 (n : Nat) (vfa : Nat → Int32) (x : Int32 × (Nat → Int32)) : Option ((Int32 × (Nat → Int32)) ⊕ (Int32 × (Nat → Int32))) := if (Int32.ofNat n) ≤ x.1 then (some (.inr (x.1, x.2))) else (chk x.1 n (some (.inl ((x.1 + 1), (upd x.2 (x.1).toNatClampNeg (vfa (x.1).toNatClampNeg))))))
def f_X4_copyRow (n : Nat) (vfa : Nat → Int32) (vfb : Nat → Int32) : Option ((Nat → Int32)) := ob (wh (s_X4_copyRow_2 n vfa) 5000 (0, vfb)) (fun r1 => some r1.2)
theorem yd_X4_copyRow : yX4_copyRow.cls ≠ "java/lang/invoke/MethodHandle" ∧ yX4_copyRow.cls ≠ "java/lang/invoke/VarHandle" ∧ (parseMethodDescriptor yX4_copyRow.desc).map (fun d => d.parameters.length) = some 2 := by decide +kernel
abbrev rmX4_copyRow : Room := { frames := 0, cells := 0, slots := 0, locals := 0 }
set_option maxHeartbeats 4000000 in
set_option maxRecDepth 100000 in
theorem k_X4_copyRow (l : Launch) (D : va_G) (K : Nat → ClassId) (aia : Nat) (aib : Nat) (n : Nat) (vfa : Nat → Int32) (vfb : Nat → Int32) (out : (Nat → Int32)) (hf : f_X4_copyRow n vfa vfb = some out) : kV l D K yX4_copyRow wsX4_copyRow rmX4_copyRow [.ref aia, .ref aib] ((iaW K aia n vfa) ++ (iaW K aib n vfb)) ((iaW K aia n vfa) ++ (iaW K aib n out)) := by
  refine kV.of (cc := cX4_copyRow) (maxL := 3) (by decide) rfl (Nat.le_of_ble_eq_true rfl) ?_
  intro p e s m args below meth c A H0 Q ls hx hb hml hown hts hK hN hA hP hD hS hl hret
  have hown : s.vm.findClass RX4 = some m.cls := hown
  have hl : lv_has ls 3 [(0, .ref aia), (1, .ref aib)] := hl
  generalize hH : H0 = H at hP ⊢
  have hS : va_S A H0 H [] := by rw [← hH]; exact hS
  clear hH
  unfold f_X4_copyRow at hf
  refine lv_iconst (v := 0) hx hb dX4_copyRow_0 (by decide) ?_
  refine lv_istore_n (lv' := [(2, .int 0), (0, .ref aia), (1, .ref aib)]) hx hb dX4_copyRow_1 rfl hl (by decide) rfl (fun ls hl => ?_)
  obtain ⟨r1, hr1, hf⟩ := ob_el hf
  have post2 : ∀ (e2_l2 : Int32) (e2_f1 : Nat → Int32) (H : Heap) (locs : List Loc) (ls : Array Slot), (some e2_f1) = some out → va_P D vwCl ((iaW K aia n vfa) ++ (iaW K aib n e2_f1)) H → va_D A ((iaW K aia n vfa) ++ (iaW K aib n e2_f1)) → va_S A H0 H locs → lv_has ls 3 [(2, .int e2_l2), (0, .ref aia), (1, .ref aib)] → W p l e rmX4_copyRow s m args below meth c H locs 0 0 Q (F0 m 26 ls []) := by
    intro e2_l2 e2_f1 H locs ls hf hP hD hS hl
    obtain rfl := Option.some.inj hf
    exact hret rfl hP hD hS dX4_copyRow_26
  have lp2 : ∀ (fu : Nat) (x2_l2 : Int32) (x2_f1 : Nat → Int32) (H : Heap) (locs : List Loc) (ls : Array Slot), wh (s_X4_copyRow_2 n vfa) fu (x2_l2, x2_f1) = some r1 → va_P D vwCl ((iaW K aia n vfa) ++ (iaW K aib n x2_f1)) H → va_D A ((iaW K aia n vfa) ++ (iaW K aib n x2_f1)) → va_S A H0 H locs → lv_has ls 3 [(2, .int x2_l2), (0, .ref aia), (1, .ref aib)] → W p l e rmX4_copyRow s m args below meth c H locs 0 0 Q (F0 m 2 ls []) := by
    intro fu
    induction fu with
    | zero => intro x2_l2 x2_f1 H locs ls hw2; cases hw2
    | succ fu ih2 =>
      intro x2_l2 x2_f1 H locs ls hw2 hP hD hS hl
      obtain ⟨o2_, hs2, hw2⟩ := wh_el hw2
      unfold s_X4_copyRow_2 at hs2
      dsimp only at hs2
      refine lv_iload_n hx hb dX4_copyRow_2 rfl (lv_at hl 0 rfl) ?_
      refine lv_aload_n hx hb dX4_copyRow_3 rfl (lv_at hl 1 rfl) ?_
      refine va_alen (D := D) (v := (Int32.ofNat n)) hx hb hK hP 0 0 rfl rfl rfl dX4_copyRow_4 ?_
      refine lv_icmp_ge (tgt := 26) hx hb dX4_copyRow_5 (by decide) (fun c2 => ?_) (fun c2 => ?_)
      · rw [if_pos c2] at hs2
        obtain rfl := Option.some.inj hs2
        have e9 := Option.some.inj hw2
        rw [← e9] at hf
        exact post2 _ _ _ _ _ hf hP hD hS (lv_sub hl [0, 1, 2] rfl)
      · rw [if_neg c2] at hs2
        refine lv_iload_n hx hb dX4_copyRow_8 rfl (lv_at hl 0 rfl) ?_
        refine lv_aload_n hx hb dX4_copyRow_9 rfl (lv_at hl 2 rfl) ?_
        refine va_alen (D := D) (v := (Int32.ofNat n)) hx hb hK hP 1 0 rfl rfl rfl dX4_copyRow_10 ?_
        refine lv_icmp_ge (tgt := 26) hx hb dX4_copyRow_11 (by decide) (fun c3 => ?_) (fun c3 => ?_)
        · exact absurd c3 c2
        · skip
          refine lv_aload_n hx hb dX4_copyRow_14 rfl (lv_at hl 2 rfl) ?_
          refine lv_iload_n hx hb dX4_copyRow_15 rfl (lv_at hl 0 rfl) ?_
          refine lv_aload_n hx hb dX4_copyRow_16 rfl (lv_at hl 1 rfl) ?_
          refine lv_iload_n hx hb dX4_copyRow_17 rfl (lv_at hl 0 rfl) ?_
          obtain ⟨v4, hs2⟩ := chk_el hs2
          refine va_iald (D := D) (f := vfa) hx hb hK hP 0 0 rfl rfl v4 dX4_copyRow_18 ?_
          refine va_iast (D := D) (f := x2_f1) hx hb hK hP hD hS 1 0 rfl rfl v4 dX4_copyRow_19 (fun H locs hP hD hS => ?_)
          have hP : va_P D vwCl ((iaW K aia n vfa) ++ (iaW K aib n (upd x2_f1 (x2_l2).toNatClampNeg (vfa (x2_l2).toNatClampNeg)))) H := hP
          have hD : va_D A ((iaW K aia n vfa) ++ (iaW K aib n (upd x2_f1 (x2_l2).toNatClampNeg (vfa (x2_l2).toNatClampNeg)))) := hD
          refine lv_iinc (v := (x2_l2 + 1)) (lv' := [(2, .int (x2_l2 + 1)), (0, .ref aia), (1, .ref aib)]) hx hb dX4_copyRow_20 hl (k := 0) rfl (by rfl) (by decide) rfl (fun ls hl => ?_)
          refine lv_goto (tgt := 2) hx hb dX4_copyRow_23 (by decide) ?_
          obtain rfl := Option.some.inj hs2
          exact ih2 _ _ _ _ _ hw2 hP hD hS (lv_sub hl [0, 1, 2] rfl)
  exact lp2 5000 _ _ _ _ _ hr1 hP hD hS (lv_sub hl [0, 1, 2] rfl)
def f_X4_mostLeft (p0 : Int32) (p1 : Int32) : Int32 := (if p1 < (p0 - (2 * p1)) then (p0 - (2 * p1)) else p1)
theorem yd_X4_mostLeft : yX4_mostLeft.cls ≠ "java/lang/invoke/MethodHandle" ∧ yX4_mostLeft.cls ≠ "java/lang/invoke/VarHandle" ∧ (parseMethodDescriptor yX4_mostLeft.desc).map (fun d => d.parameters.length) = some 2 := by decide +kernel
abbrev rmX4_mostLeft : Room := { frames := 1, cells := 0, slots := 0, locals := 25 }
set_option maxHeartbeats 4000000 in
set_option maxRecDepth 100000 in
theorem k_X4_mostLeft (l : Launch) (D : va_G) (K : Nat → ClassId) (p0 : Int32) (p1 : Int32) (out : Int32) (hf : f_X4_mostLeft p0 p1 = out) : kI l D K .int yX4_mostLeft wsX4_mostLeft rmX4_mostLeft [.int p0, .int p1] ([] : va_W) out ([] : va_W) := by
  refine kI.of (cc := cX4_mostLeft) (maxL := 2) (by decide) rfl (Nat.le_of_ble_eq_true rfl) ?_
  intro p e s m args below meth c A H0 Q ls hx hb hml hown hts hK hN hA hP hD hS hl hret
  have hown : s.vm.findClass RX4 = some m.cls := hown
  have hl : lv_has ls 2 [(0, .int p0), (1, .int p1)] := hl
  generalize hH : H0 = H at hP ⊢
  have hS : va_S A H0 H [] := by rw [← hH]; exact hS
  clear hH
  unfold f_X4_mostLeft at hf
  refine lv_iload_n hx hb dX4_mostLeft_0 rfl (lv_at hl 1 rfl) ?_
  refine lv_iload_n hx hb dX4_mostLeft_1 rfl (lv_at hl 0 rfl) ?_
  refine lv_iconst (v := 2) hx hb dX4_mostLeft_2 (by decide) ?_
  refine lv_iload_n hx hb dX4_mostLeft_3 rfl (lv_at hl 1 rfl) ?_
  refine lv_imul hx hb dX4_mostLeft_4 ?_
  refine lv_isub hx hb dX4_mostLeft_5 ?_
  refine va_mmax hx hb (hml.trans hl.1.symm) hown (hts (.methodLink RX4 223 Lib.Math.max.name) (List.mem_of_getElem? (i := 1) rfl)) (hts (.static Lib.Math.max.name) (List.mem_of_getElem? (i := 2) rfl)) (hts (.initialized "java/lang/Math") (List.mem_of_getElem? (i := 3) rfl)) (hts (.code Lib.Math.max.name Lib.Math.max.code 2 (some .int)) (List.mem_of_getElem? (i := 4) rfl)) (Nat.le_of_ble_eq_true rfl) (Nat.le_of_ble_eq_true rfl) (Nat.le_of_ble_eq_true rfl) (Nat.le_of_ble_eq_true rfl) dX4_mostLeft_6 ?_
  subst hf
  exact hret rfl rfl rfl hP hD hS dX4_mostLeft_9
def s_X4_bestEach_4 (p0 : Int32) (x : Int32 × Int32) : Option ((Int32 × Int32) ⊕ (Int32 × Int32)) := if (p0 / 2) < x.2 then (some (.inr (x.1, x.2))) else (bd (f_X4_mostLeft p0 x.2) (fun o3 => bd (f_X4_mostLeft p0 x.1) (fun o4 => if o4 ≤ o3 then (some (.inl (x.1, (x.2 + 1)))) else (some (.inl (x.2, (x.2 + 1)))))))
def f_X4_bestEach (p0 : Int32) : Option (Int32) := ob (wh (s_X4_bestEach_4 p0) 5000 (0, 1)) (fun r1 => some r1.1)
theorem yd_X4_bestEach : yX4_bestEach.cls ≠ "java/lang/invoke/MethodHandle" ∧ yX4_bestEach.cls ≠ "java/lang/invoke/VarHandle" ∧ (parseMethodDescriptor yX4_bestEach.desc).map (fun d => d.parameters.length) = some 1 := by decide +kernel
abbrev rmX4_bestEach : Room := { frames := 2, cells := 0, slots := 0, locals := 46 }
set_option maxHeartbeats 4000000 in
set_option maxRecDepth 100000 in
theorem k_X4_bestEach (l : Launch) (D : va_G) (K : Nat → ClassId) (p0 : Int32) (out : Int32) (hf : f_X4_bestEach p0 = some out) : kI l D K .int yX4_bestEach wsX4_bestEach rmX4_bestEach [.int p0] ([] : va_W) out ([] : va_W) := by
  refine kI.of (cc := cX4_bestEach) (maxL := 3) (by decide) rfl (Nat.le_of_ble_eq_true rfl) ?_
  intro p e s m args below meth c A H0 Q ls hx hb hml hown hts hK hN hA hP hD hS hl hret
  have hown : s.vm.findClass RX4 = some m.cls := hown
  have hl : lv_has ls 3 [(0, .int p0)] := hl
  generalize hH : H0 = H at hP ⊢
  have hS : va_S A H0 H [] := by rw [← hH]; exact hS
  clear hH
  unfold f_X4_bestEach at hf
  refine lv_iconst (v := 0) hx hb dX4_bestEach_0 (by decide) ?_
  refine lv_istore_n (lv' := [(1, .int 0), (0, .int p0)]) hx hb dX4_bestEach_1 rfl hl (by decide) rfl (fun ls hl => ?_)
  refine lv_iconst (v := 1) hx hb dX4_bestEach_2 (by decide) ?_
  refine lv_istore_n (lv' := [(2, .int 1), (1, .int 0), (0, .int p0)]) hx hb dX4_bestEach_3 rfl hl (by decide) rfl (fun ls hl => ?_)
  obtain ⟨r1, hr1, hf⟩ := ob_el hf
  have post4 : ∀ (e4_l1 : Int32) (e4_l2 : Int32) (H : Heap) (locs : List Loc) (ls : Array Slot), (some e4_l1) = some out → va_P D vwCl ([] : va_W) H → va_D A ([] : va_W) → va_S A H0 H locs → lv_has ls 3 [(2, .int e4_l2), (1, .int e4_l1), (0, .int p0)] → W p l e rmX4_bestEach s m args below meth c H locs 0 0 Q (F0 m 32 ls []) := by
    intro e4_l1 e4_l2 H locs ls hf hP hD hS hl
    refine lv_iload_n hx hb dX4_bestEach_32 rfl (lv_at hl 1 rfl) ?_
    obtain rfl := Option.some.inj hf
    exact hret rfl rfl rfl hP hD hS dX4_bestEach_33
  have lp4 : ∀ (fu : Nat) (x4_l1 : Int32) (x4_l2 : Int32) (H : Heap) (locs : List Loc) (ls : Array Slot), wh (s_X4_bestEach_4 p0) fu (x4_l1, x4_l2) = some r1 → va_P D vwCl ([] : va_W) H → va_D A ([] : va_W) → va_S A H0 H locs → lv_has ls 3 [(2, .int x4_l2), (1, .int x4_l1), (0, .int p0)] → W p l e rmX4_bestEach s m args below meth c H locs 0 0 Q (F0 m 4 ls []) := by
    intro fu
    induction fu with
    | zero => intro x4_l1 x4_l2 H locs ls hw4; cases hw4
    | succ fu ih4 =>
      intro x4_l1 x4_l2 H locs ls hw4 hP hD hS hl
      obtain ⟨o4_, hs4, hw4⟩ := wh_el hw4
      unfold s_X4_bestEach_4 at hs4
      dsimp only at hs4
      refine lv_iload_n hx hb dX4_bestEach_4 rfl (lv_at hl 0 rfl) ?_
      refine lv_iload_n hx hb dX4_bestEach_5 rfl (lv_at hl 2 rfl) ?_
      refine lv_iconst (v := 2) hx hb dX4_bestEach_6 (by decide) ?_
      refine lv_idiv hx hb dX4_bestEach_7 (by decide) ?_
      refine lv_icmp_gt (tgt := 32) hx hb dX4_bestEach_8 (by decide) (fun c2 => ?_) (fun c2 => ?_)
      · rw [if_pos c2] at hs4
        obtain rfl := Option.some.inj hs4
        have e9 := Option.some.inj hw4
        rw [← e9] at hf
        exact post4 _ _ _ _ _ hf hP hD hS (lv_sub hl [0, 1, 2] rfl)
      · rw [if_neg c2] at hs4
        refine lv_iload_n hx hb dX4_bestEach_11 rfl (lv_at hl 2 rfl) ?_
        refine lv_iload_n hx hb dX4_bestEach_12 rfl (lv_at hl 0 rfl) ?_
        obtain ⟨o3, ho3, hs4⟩ := bd_el hs4
        refine kc0_i (D := D) (va_runS (As := [.int p0, .int x4_l2]) (rest := []) ⟨hx, hb, hml, hown, hts⟩ ((k_X4_mostLeft l D K p0 x4_l2 o3 ho3) H.size) (va_cwS 2 hts gX4_bestEach_X4_mostLeft rfl rfl rfl yd_X4_mostLeft ⟨Nat.le_of_ble_eq_true rfl, Nat.le_of_ble_eq_true rfl⟩) (kPreS va_P_nil (va_D_nil (A := fun _ => True)) hK hN) rfl rfl hl.1 rfl (lv_room (Nat.le_of_ble_eq_true rfl)) dX4_bestEach_13 ⟨Nat.le_of_ble_eq_true rfl, Nat.le_of_ble_eq_true rfl⟩) hP hS hA (fun hzo3 H locs hP hS => ?_)
        refine lv_iload_n hx hb dX4_bestEach_16 rfl (lv_at hl 2 rfl) ?_
        refine lv_iload_n hx hb dX4_bestEach_17 rfl (lv_at hl 1 rfl) ?_
        obtain ⟨o4, ho4, hs4⟩ := bd_el hs4
        refine kc0_i (D := D) (va_runS (As := [.int p0, .int x4_l1]) (rest := [.int o3]) ⟨hx, hb, hml, hown, hts⟩ ((k_X4_mostLeft l D K p0 x4_l1 o4 ho4) H.size) (va_cwS 2 hts gX4_bestEach_X4_mostLeft rfl rfl rfl yd_X4_mostLeft ⟨Nat.le_of_ble_eq_true rfl, Nat.le_of_ble_eq_true rfl⟩) (kPreS va_P_nil (va_D_nil (A := fun _ => True)) hK hN) rfl rfl hl.1 rfl (lv_room (Nat.le_of_ble_eq_true rfl)) dX4_bestEach_18 ⟨Nat.le_of_ble_eq_true rfl, Nat.le_of_ble_eq_true rfl⟩) hP hS hA (fun hzo4 H locs hP hS => ?_)
        refine lv_icmp_ge (tgt := 26) hx hb dX4_bestEach_21 (by decide) (fun c5 => ?_) (fun c5 => ?_)
        · rw [if_pos c5] at hs4
          refine lv_iinc (v := (x4_l2 + 1)) (lv' := [(2, .int (x4_l2 + 1)), (1, .int x4_l1), (0, .int p0)]) hx hb dX4_bestEach_26 hl (k := 0) rfl (by rfl) (by decide) rfl (fun ls hl => ?_)
          refine lv_goto (tgt := 4) hx hb dX4_bestEach_29 (by decide) ?_
          obtain rfl := Option.some.inj hs4
          exact ih4 _ _ _ _ _ hw4 hP hD hS (lv_sub hl [0, 1, 2] rfl)
        · rw [if_neg c5] at hs4
          refine lv_iload_n hx hb dX4_bestEach_24 rfl (lv_at hl 0 rfl) ?_
          refine lv_istore_n (lv' := [(1, .int x4_l2), (2, .int x4_l2), (0, .int p0)]) hx hb dX4_bestEach_25 rfl hl (by decide) rfl (fun ls hl => ?_)
          refine lv_iinc (v := (x4_l2 + 1)) (lv' := [(2, .int (x4_l2 + 1)), (1, .int x4_l2), (0, .int p0)]) hx hb dX4_bestEach_26 hl (k := 1) rfl (by rfl) (by decide) rfl (fun ls hl => ?_)
          refine lv_goto (tgt := 4) hx hb dX4_bestEach_29 (by decide) ?_
          obtain rfl := Option.some.inj hs4
          exact ih4 _ _ _ _ _ hw4 hP hD hS (lv_sub hl [0, 1, 2] rfl)
  exact lp4 5000 _ _ _ _ _ hr1 hP hD hS (lv_sub hl [0, 1, 2] rfl)
def s_X4_fewestWeighings_4 (p0 : Int32) (x : Int32 × Int32) : Option ((Int32 × Int32) ⊕ (Int32 × Int32)) := if p0 ≤ x.1 then (some (.inr (x.1, x.2))) else (if 12 ≤ x.2 then (some (.inr (x.1, x.2))) else (some (.inl ((x.1 * 3), (x.2 + 1)))))
def f_X4_fewestWeighings (p0 : Int32) : Option (Int32) := ob (wh (s_X4_fewestWeighings_4 p0) 5000 (1, 0)) (fun r1 => some r1.2)
theorem yd_X4_fewestWeighings : yX4_fewestWeighings.cls ≠ "java/lang/invoke/MethodHandle" ∧ yX4_fewestWeighings.cls ≠ "java/lang/invoke/VarHandle" ∧ (parseMethodDescriptor yX4_fewestWeighings.desc).map (fun d => d.parameters.length) = some 1 := by decide +kernel
abbrev rmX4_fewestWeighings : Room := { frames := 0, cells := 0, slots := 0, locals := 0 }
set_option maxHeartbeats 4000000 in
set_option maxRecDepth 100000 in
theorem k_X4_fewestWeighings (l : Launch) (D : va_G) (K : Nat → ClassId) (p0 : Int32) (out : Int32) (hf : f_X4_fewestWeighings p0 = some out) : kI l D K .int yX4_fewestWeighings wsX4_fewestWeighings rmX4_fewestWeighings [.int p0] ([] : va_W) out ([] : va_W) := by
  refine kI.of (cc := cX4_fewestWeighings) (maxL := 3) (by decide) rfl (Nat.le_of_ble_eq_true rfl) ?_
  intro p e s m args below meth c A H0 Q ls hx hb hml hown hts hK hN hA hP hD hS hl hret
  have hown : s.vm.findClass RX4 = some m.cls := hown
  have hl : lv_has ls 3 [(0, .int p0)] := hl
  generalize hH : H0 = H at hP ⊢
  have hS : va_S A H0 H [] := by rw [← hH]; exact hS
  clear hH
  unfold f_X4_fewestWeighings at hf
  refine lv_iconst (v := 1) hx hb dX4_fewestWeighings_0 (by decide) ?_
  refine lv_istore_n (lv' := [(1, .int 1), (0, .int p0)]) hx hb dX4_fewestWeighings_1 rfl hl (by decide) rfl (fun ls hl => ?_)
  refine lv_iconst (v := 0) hx hb dX4_fewestWeighings_2 (by decide) ?_
  refine lv_istore_n (lv' := [(2, .int 0), (1, .int 1), (0, .int p0)]) hx hb dX4_fewestWeighings_3 rfl hl (by decide) rfl (fun ls hl => ?_)
  obtain ⟨r1, hr1, hf⟩ := ob_el hf
  have post4 : ∀ (e4_l1 : Int32) (e4_l2 : Int32) (H : Heap) (locs : List Loc) (ls : Array Slot), (some e4_l2) = some out → va_P D vwCl ([] : va_W) H → va_D A ([] : va_W) → va_S A H0 H locs → lv_has ls 3 [(2, .int e4_l2), (1, .int e4_l1), (0, .int p0)] → W p l e rmX4_fewestWeighings s m args below meth c H locs 0 0 Q (F0 m 25 ls []) := by
    intro e4_l1 e4_l2 H locs ls hf hP hD hS hl
    refine lv_iload_n hx hb dX4_fewestWeighings_25 rfl (lv_at hl 0 rfl) ?_
    obtain rfl := Option.some.inj hf
    exact hret rfl rfl rfl hP hD hS dX4_fewestWeighings_26
  have lp4 : ∀ (fu : Nat) (x4_l1 : Int32) (x4_l2 : Int32) (H : Heap) (locs : List Loc) (ls : Array Slot), wh (s_X4_fewestWeighings_4 p0) fu (x4_l1, x4_l2) = some r1 → va_P D vwCl ([] : va_W) H → va_D A ([] : va_W) → va_S A H0 H locs → lv_has ls 3 [(2, .int x4_l2), (1, .int x4_l1), (0, .int p0)] → W p l e rmX4_fewestWeighings s m args below meth c H locs 0 0 Q (F0 m 4 ls []) := by
    intro fu
    induction fu with
    | zero => intro x4_l1 x4_l2 H locs ls hw4; cases hw4
    | succ fu ih4 =>
      intro x4_l1 x4_l2 H locs ls hw4 hP hD hS hl
      obtain ⟨o4_, hs4, hw4⟩ := wh_el hw4
      unfold s_X4_fewestWeighings_4 at hs4
      dsimp only at hs4
      refine lv_iload_n hx hb dX4_fewestWeighings_4 rfl (lv_at hl 1 rfl) ?_
      refine lv_iload_n hx hb dX4_fewestWeighings_5 rfl (lv_at hl 2 rfl) ?_
      refine lv_icmp_ge (tgt := 25) hx hb dX4_fewestWeighings_6 (by decide) (fun c2 => ?_) (fun c2 => ?_)
      · rw [if_pos c2] at hs4
        obtain rfl := Option.some.inj hs4
        have e9 := Option.some.inj hw4
        rw [← e9] at hf
        exact post4 _ _ _ _ _ hf hP hD hS (lv_sub hl [0, 1, 2] rfl)
      · rw [if_neg c2] at hs4
        refine lv_iload_n hx hb dX4_fewestWeighings_9 rfl (lv_at hl 0 rfl) ?_
        refine lv_bipush (v := 12) hx hb dX4_fewestWeighings_10 (by decide) ?_
        refine lv_icmp_ge (tgt := 25) hx hb dX4_fewestWeighings_12 (by decide) (fun c3 => ?_) (fun c3 => ?_)
        · rw [if_pos c3] at hs4
          obtain rfl := Option.some.inj hs4
          have e9 := Option.some.inj hw4
          rw [← e9] at hf
          exact post4 _ _ _ _ _ hf hP hD hS (lv_sub hl [0, 1, 2] rfl)
        · rw [if_neg c3] at hs4
          refine lv_iload_n hx hb dX4_fewestWeighings_15 rfl (lv_at hl 1 rfl) ?_
          refine lv_iconst (v := 3) hx hb dX4_fewestWeighings_16 (by decide) ?_
          refine lv_imul hx hb dX4_fewestWeighings_17 ?_
          refine lv_istore_n (lv' := [(1, .int (x4_l1 * 3)), (2, .int x4_l2), (0, .int p0)]) hx hb dX4_fewestWeighings_18 rfl hl (by decide) rfl (fun ls hl => ?_)
          refine lv_iinc (v := (x4_l2 + 1)) (lv' := [(2, .int (x4_l2 + 1)), (1, .int (x4_l1 * 3)), (0, .int p0)]) hx hb dX4_fewestWeighings_19 hl (k := 1) rfl (by rfl) (by decide) rfl (fun ls hl => ?_)
          refine lv_goto (tgt := 4) hx hb dX4_fewestWeighings_22 (by decide) ?_
          obtain rfl := Option.some.inj hs4
          exact ih4 _ _ _ _ _ hw4 hP hD hS (lv_sub hl [0, 1, 2] rfl)
  exact lp4 5000 _ _ _ _ _ hr1 hP hD hS (lv_sub hl [0, 1, 2] rfl)
def f_X2_begin : Int32 × Int32 := (0, 0)
theorem inX2_begin_X2 : ∀ w ∈ wsX20, w ∈ wsX2_begin := fun w h => List.mem_cons_of_mem _ (List.mem_append_right _ h)
theorem yd_X2_begin : yX2_begin.cls ≠ "java/lang/invoke/MethodHandle" ∧ yX2_begin.cls ≠ "java/lang/invoke/VarHandle" ∧ (parseMethodDescriptor yX2_begin.desc).map (fun d => d.parameters.length) = some 0 := by decide +kernel
abbrev rmX2_begin : Room := { frames := 0, cells := 0, slots := 0, locals := 0 }
set_option maxHeartbeats 4000000 in
set_option maxRecDepth 100000 in
theorem k_X2_begin (l : Launch) (D : va_G) (K : Nat → ClassId) (aw : Nat) (vrwst : Int32) (vrwln : Int32) (out : Int32 × Int32) (hf : f_X2_begin = out) : kV l D K yX2_begin wsX2_begin rmX2_begin [.ref aw] (rwW aw vrwst vrwln) (rwW aw out.1 out.2) := by
  refine kV.of (cc := cX2_begin) (maxL := 1) (by decide) rfl (Nat.le_of_ble_eq_true rfl) ?_
  intro p e s m args below meth c A H0 Q ls hx hb hml hown hts hK hN hA hP hD hS hl hret
  have hown : s.vm.findClass RX2 = some m.cls := hown
  have hl : lv_has ls 1 [(0, .ref aw)] := hl
  generalize hH : H0 = H at hP ⊢
  have hS : va_S A H0 H [] := by rw [← hH]; exact hS
  clear hH
  unfold f_X2_begin at hf
  refine lv_aload_n hx hb dX2_begin_0 rfl (lv_at hl 0 rfl) ?_
  refine lv_iconst (v := 0) hx hb dX2_begin_1 (by decide) ?_
  refine va_put (D := D) (ci := 2) (v := .int 0) (ty := .int) (C := RX2) (T := TX2) (N := 2) hx hb hts inX2_begin_X2 tyX2 tyX2_ok nmX2 hown hK hP hD hS 0 rfl rfl 0 (by decide) (hts (.fieldLink RX2 11 "WordScales$Row" "stage" "I") (List.mem_of_getElem? (i := 1) rfl)) (fun _ h9 => h9) rfl (tyX2_ok 0 (by decide)) rfl rfl (Nat.le_of_ble_eq_true rfl) dX2_begin_2 (fun H locs hP hD hS => ?_)
  have hP : va_P D vwCl (rwW aw 0 vrwln) H := hP
  have hD : va_D A (rwW aw 0 vrwln) := hD
  refine lv_aload_n hx hb dX2_begin_5 rfl (lv_at hl 0 rfl) ?_
  refine lv_iconst (v := 0) hx hb dX2_begin_6 (by decide) ?_
  refine va_put (D := D) (ci := 2) (v := .int 0) (ty := .int) (C := RX2) (T := TX2) (N := 2) hx hb hts inX2_begin_X2 tyX2 tyX2_ok nmX2 hown hK hP hD hS 0 rfl rfl 1 (by decide) (hts (.fieldLink RX2 15 "WordScales$Row" "length" "I") (List.mem_of_getElem? (i := 2) rfl)) (fun _ h9 => h9) rfl (tyX2_ok 1 (by decide)) rfl rfl (Nat.le_of_ble_eq_true rfl) dX2_begin_7 (fun H locs hP hD hS => ?_)
  have hP : va_P D vwCl (rwW aw 0 0) H := hP
  have hD : va_D A (rwW aw 0 0) := hD
  subst hf
  exact hret rfl hP hD hS dX2_begin_10
def f_X2_stageBehind (vrwst : Int32) (p0 : Int32) : Int32 := if vrwst = 0 then (if p0 = 2 then (0) else (if p0 = 0 then (1) else (5))) else (if vrwst = 1 then (if p0 = 1 then (2) else (5)) else (if vrwst = 2 then (if p0 = 2 then (3) else (if p0 = 0 then (4) else (5))) else (if vrwst = 3 then (if p0 = 2 then (3) else (if p0 = 0 then (4) else (5))) else (5))))
theorem inX2_stageBehind_X2 : ∀ w ∈ wsX20, w ∈ wsX2_stageBehind := fun w h => List.mem_cons_of_mem _ (List.mem_append_right _ h)
theorem yd_X2_stageBehind : yX2_stageBehind.cls ≠ "java/lang/invoke/MethodHandle" ∧ yX2_stageBehind.cls ≠ "java/lang/invoke/VarHandle" ∧ (parseMethodDescriptor yX2_stageBehind.desc).map (fun d => d.parameters.length) = some 1 := by decide +kernel
abbrev rmX2_stageBehind : Room := { frames := 0, cells := 0, slots := 0, locals := 0 }
set_option maxHeartbeats 4000000 in
set_option maxRecDepth 100000 in
theorem k_X2_stageBehind (l : Launch) (D : va_G) (K : Nat → ClassId) (aw : Nat) (vrwst : Int32) (vrwln : Int32) (p0 : Int32) (out : Int32) (hf : f_X2_stageBehind vrwst p0 = out) : kI l D K .int yX2_stageBehind wsX2_stageBehind rmX2_stageBehind [.ref aw, .int p0] (rwW aw vrwst vrwln) out (rwW aw vrwst vrwln) := by
  refine kI.of (cc := cX2_stageBehind) (maxL := 2) (by decide) rfl (Nat.le_of_ble_eq_true rfl) ?_
  intro p e s m args below meth c A H0 Q ls hx hb hml hown hts hK hN hA hP hD hS hl hret
  have hown : s.vm.findClass RX2 = some m.cls := hown
  have hl : lv_has ls 2 [(0, .ref aw), (1, .int p0)] := hl
  generalize hH : H0 = H at hP ⊢
  have hS : va_S A H0 H [] := by rw [← hH]; exact hS
  clear hH
  unfold f_X2_stageBehind at hf
  refine lv_aload_n hx hb dX2_stageBehind_0 rfl (lv_at hl 0 rfl) ?_
  refine va_get (D := D) (ci := 2) (v := .int vrwst) (C := RX2) (T := TX2) (N := 2) hx hb hts inX2_stageBehind_X2 hown hK hP 0 rfl rfl 0 (by decide) (hts (.fieldLink RX2 11 "WordScales$Row" "stage" "I") (List.mem_of_getElem? (i := 1) rfl)) (fun _ h9 => h9) rfl dX2_stageBehind_1 ?_
  refine lv_tab4 (t0 := 36) (t1 := 53) (t2 := 64) (t3 := 64) (td := 81) hx hb dX2_stageBehind_4 (by decide) (by decide) (by decide) (by decide) (by decide) (fun c1 => ?_) (fun c1 c2 => ?_) (fun c1 c2 c3 => ?_) (fun c1 c2 c3 c4 => ?_) (fun c1 c2 c3 c4 => ?_)
  · rw [if_pos c1] at hf
    refine lv_iload_n hx hb dX2_stageBehind_36 rfl (lv_at hl 1 rfl) ?_
    refine lv_iconst (v := 2) hx hb dX2_stageBehind_37 (by decide) ?_
    refine lv_icmp_ne (tgt := 43) hx hb dX2_stageBehind_38 (by decide) (fun c5 => ?_) (fun c5 => ?_)
    · rw [if_neg c5] at hf
      refine lv_iload_n hx hb dX2_stageBehind_43 rfl (lv_at hl 1 rfl) ?_
      refine lv_if_ne (tgt := 51) hx hb dX2_stageBehind_44 (by decide) (fun c6 => ?_) (fun c6 => ?_)
      · rw [if_neg c6] at hf
        refine lv_iconst (v := 5) hx hb dX2_stageBehind_51 (by decide) ?_
        subst hf
        exact hret rfl rfl rfl hP hD hS dX2_stageBehind_52
      · rw [if_pos c6] at hf
        refine lv_iconst (v := 1) hx hb dX2_stageBehind_47 (by decide) ?_
        refine lv_goto (tgt := 52) hx hb dX2_stageBehind_48 (by decide) ?_
        subst hf
        exact hret rfl rfl rfl hP hD hS dX2_stageBehind_52
    · rw [if_pos c5] at hf
      refine lv_iconst (v := 0) hx hb dX2_stageBehind_41 (by decide) ?_
      subst hf
      exact hret rfl rfl rfl hP hD hS dX2_stageBehind_42
  · rw [if_neg c1, if_pos c2] at hf
    refine lv_iload_n hx hb dX2_stageBehind_53 rfl (lv_at hl 1 rfl) ?_
    refine lv_iconst (v := 1) hx hb dX2_stageBehind_54 (by decide) ?_
    refine lv_icmp_ne (tgt := 62) hx hb dX2_stageBehind_55 (by decide) (fun c7 => ?_) (fun c7 => ?_)
    · rw [if_neg c7] at hf
      refine lv_iconst (v := 5) hx hb dX2_stageBehind_62 (by decide) ?_
      subst hf
      exact hret rfl rfl rfl hP hD hS dX2_stageBehind_63
    · rw [if_pos c7] at hf
      refine lv_iconst (v := 2) hx hb dX2_stageBehind_58 (by decide) ?_
      refine lv_goto (tgt := 63) hx hb dX2_stageBehind_59 (by decide) ?_
      subst hf
      exact hret rfl rfl rfl hP hD hS dX2_stageBehind_63
  · rw [if_neg c1, if_neg c2, if_pos c3] at hf
    refine lv_iload_n hx hb dX2_stageBehind_64 rfl (lv_at hl 1 rfl) ?_
    refine lv_iconst (v := 2) hx hb dX2_stageBehind_65 (by decide) ?_
    refine lv_icmp_ne (tgt := 71) hx hb dX2_stageBehind_66 (by decide) (fun c8 => ?_) (fun c8 => ?_)
    · rw [if_neg c8] at hf
      refine lv_iload_n hx hb dX2_stageBehind_71 rfl (lv_at hl 1 rfl) ?_
      refine lv_if_ne (tgt := 79) hx hb dX2_stageBehind_72 (by decide) (fun c9 => ?_) (fun c9 => ?_)
      · rw [if_neg c9] at hf
        refine lv_iconst (v := 5) hx hb dX2_stageBehind_79 (by decide) ?_
        subst hf
        exact hret rfl rfl rfl hP hD hS dX2_stageBehind_80
      · rw [if_pos c9] at hf
        refine lv_iconst (v := 4) hx hb dX2_stageBehind_75 (by decide) ?_
        refine lv_goto (tgt := 80) hx hb dX2_stageBehind_76 (by decide) ?_
        subst hf
        exact hret rfl rfl rfl hP hD hS dX2_stageBehind_80
    · rw [if_pos c8] at hf
      refine lv_iconst (v := 3) hx hb dX2_stageBehind_69 (by decide) ?_
      subst hf
      exact hret rfl rfl rfl hP hD hS dX2_stageBehind_70
  · rw [if_neg c1, if_neg c2, if_neg c3, if_pos c4] at hf
    refine lv_iload_n hx hb dX2_stageBehind_64 rfl (lv_at hl 1 rfl) ?_
    refine lv_iconst (v := 2) hx hb dX2_stageBehind_65 (by decide) ?_
    refine lv_icmp_ne (tgt := 71) hx hb dX2_stageBehind_66 (by decide) (fun c10 => ?_) (fun c10 => ?_)
    · rw [if_neg c10] at hf
      refine lv_iload_n hx hb dX2_stageBehind_71 rfl (lv_at hl 1 rfl) ?_
      refine lv_if_ne (tgt := 79) hx hb dX2_stageBehind_72 (by decide) (fun c11 => ?_) (fun c11 => ?_)
      · rw [if_neg c11] at hf
        refine lv_iconst (v := 5) hx hb dX2_stageBehind_79 (by decide) ?_
        subst hf
        exact hret rfl rfl rfl hP hD hS dX2_stageBehind_80
      · rw [if_pos c11] at hf
        refine lv_iconst (v := 4) hx hb dX2_stageBehind_75 (by decide) ?_
        refine lv_goto (tgt := 80) hx hb dX2_stageBehind_76 (by decide) ?_
        subst hf
        exact hret rfl rfl rfl hP hD hS dX2_stageBehind_80
    · rw [if_pos c10] at hf
      refine lv_iconst (v := 3) hx hb dX2_stageBehind_69 (by decide) ?_
      subst hf
      exact hret rfl rfl rfl hP hD hS dX2_stageBehind_70
  · rw [if_neg c1, if_neg c2, if_neg c3, if_neg c4] at hf
    refine lv_iconst (v := 5) hx hb dX2_stageBehind_81 (by decide) ?_
    subst hf
    exact hret rfl rfl rfl hP hD hS dX2_stageBehind_82
def f_X2_add (vrwst : Int32) (vrwln : Int32) (p0 : Int32) : Int32 × Int32 := bd (f_X2_stageBehind vrwst p0) (fun o1 => (o1, (vrwln + 1)))
theorem inX2_add_X2 : ∀ w ∈ wsX20, w ∈ wsX2_add := fun w h => List.mem_cons_of_mem _ (List.mem_append_right _ h)
theorem yd_X2_add : yX2_add.cls ≠ "java/lang/invoke/MethodHandle" ∧ yX2_add.cls ≠ "java/lang/invoke/VarHandle" ∧ (parseMethodDescriptor yX2_add.desc).map (fun d => d.parameters.length) = some 1 := by decide +kernel
abbrev rmX2_add : Room := { frames := 1, cells := 0, slots := 0, locals := 21 }
set_option maxHeartbeats 4000000 in
set_option maxRecDepth 100000 in
theorem k_X2_add (l : Launch) (D : va_G) (K : Nat → ClassId) (aw : Nat) (vrwst : Int32) (vrwln : Int32) (p0 : Int32) (out : Int32 × Int32) (hf : f_X2_add vrwst vrwln p0 = out) : kV l D K yX2_add wsX2_add rmX2_add [.ref aw, .int p0] (rwW aw vrwst vrwln) (rwW aw out.1 out.2) := by
  refine kV.of (cc := cX2_add) (maxL := 2) (by decide) rfl (Nat.le_of_ble_eq_true rfl) ?_
  intro p e s m args below meth c A H0 Q ls hx hb hml hown hts hK hN hA hP hD hS hl hret
  have hown : s.vm.findClass RX2 = some m.cls := hown
  have hl : lv_has ls 2 [(0, .ref aw), (1, .int p0)] := hl
  generalize hH : H0 = H at hP ⊢
  have hS : va_S A H0 H [] := by rw [← hH]; exact hS
  clear hH
  unfold f_X2_add at hf
  refine lv_aload_n hx hb dX2_add_0 rfl (lv_at hl 0 rfl) ?_
  refine lv_aload_n hx hb dX2_add_1 rfl (lv_at hl 0 rfl) ?_
  refine lv_iload_n hx hb dX2_add_2 rfl (lv_at hl 1 rfl) ?_
  obtain ⟨o1, ho1, hf⟩ := bd_el hf
  refine kcw_i (D := D) (va_runV (As := [.int p0]) (rest := [.ref aw]) ⟨hx, hb, hml, hown, hts⟩ ((k_X2_stageBehind l D K aw vrwst vrwln p0 o1 ho1) H.size) (cwV 1 hts gX2_add_X2_stageBehind rfl rfl rfl ⟨rfl, yd_X2_stageBehind⟩ ⟨Nat.le_of_ble_eq_true rfl, Nat.le_of_ble_eq_true rfl⟩) (kPreV (ci := 2) (q0 := 0) hP rfl rfl hP hD hK hN) rfl rfl hl.1 rfl (lv_room (Nat.le_of_ble_eq_true rfl)) dX2_add_3 ⟨Nat.le_of_ble_eq_true rfl, Nat.le_of_ble_eq_true rfl⟩) hD hS hA (fun hzo1 H locs hP hD hS => ?_)
  have hP : va_P D vwCl (rwW aw vrwst vrwln) H := hP
  have hD : va_D A (rwW aw vrwst vrwln) := hD
  refine va_put (D := D) (ci := 2) (v := .int o1) (ty := .int) (C := RX2) (T := TX2) (N := 2) hx hb hts inX2_add_X2 tyX2 tyX2_ok nmX2 hown hK hP hD hS 0 rfl rfl 0 (by decide) (hts (.fieldLink RX2 11 "WordScales$Row" "stage" "I") (List.mem_of_getElem? (i := 1) rfl)) (fun _ h9 => h9) rfl (tyX2_ok 0 (by decide)) rfl rfl (Nat.le_of_ble_eq_true rfl) dX2_add_6 (fun H locs hP hD hS => ?_)
  have hP : va_P D vwCl (rwW aw o1 vrwln) H := hP
  have hD : va_D A (rwW aw o1 vrwln) := hD
  refine lv_aload_n hx hb dX2_add_9 rfl (lv_at hl 0 rfl) ?_
  refine lv_dup hx hb dX2_add_10 rfl ?_
  refine va_get (D := D) (ci := 2) (v := .int vrwln) (C := RX2) (T := TX2) (N := 2) hx hb hts inX2_add_X2 hown hK hP 0 rfl rfl 1 (by decide) (hts (.fieldLink RX2 15 "WordScales$Row" "length" "I") (List.mem_of_getElem? (i := 2) rfl)) (fun _ h9 => h9) rfl dX2_add_11 ?_
  refine lv_iconst (v := 1) hx hb dX2_add_14 (by decide) ?_
  refine lv_iadd hx hb dX2_add_15 ?_
  refine va_put (D := D) (ci := 2) (v := .int (vrwln + 1)) (ty := .int) (C := RX2) (T := TX2) (N := 2) hx hb hts inX2_add_X2 tyX2 tyX2_ok nmX2 hown hK hP hD hS 0 rfl rfl 1 (by decide) (hts (.fieldLink RX2 15 "WordScales$Row" "length" "I") (List.mem_of_getElem? (i := 2) rfl)) (fun _ h9 => h9) rfl (tyX2_ok 1 (by decide)) rfl rfl (Nat.le_of_ble_eq_true rfl) dX2_add_16 (fun H locs hP hD hS => ?_)
  have hP : va_P D vwCl (rwW aw o1 (vrwln + 1)) H := hP
  have hD : va_D A (rwW aw o1 (vrwln + 1)) := hD
  subst hf
  exact hret rfl hP hD hS dX2_add_19
def f_X2_isSentence (vrwst : Int32) : Int32 := if vrwst = 2 then (1) else (if vrwst = 4 then (1) else (0))
theorem inX2_isSentence_X2 : ∀ w ∈ wsX20, w ∈ wsX2_isSentence := fun w h => List.mem_cons_of_mem _ (List.mem_append_right _ h)
theorem yd_X2_isSentence : yX2_isSentence.cls ≠ "java/lang/invoke/MethodHandle" ∧ yX2_isSentence.cls ≠ "java/lang/invoke/VarHandle" ∧ (parseMethodDescriptor yX2_isSentence.desc).map (fun d => d.parameters.length) = some 0 := by decide +kernel
abbrev rmX2_isSentence : Room := { frames := 0, cells := 0, slots := 0, locals := 0 }
set_option maxHeartbeats 4000000 in
set_option maxRecDepth 100000 in
theorem k_X2_isSentence (l : Launch) (D : va_G) (K : Nat → ClassId) (aw : Nat) (vrwst : Int32) (vrwln : Int32) (out : Int32) (hf : f_X2_isSentence vrwst = out) : kI l D K .boolean yX2_isSentence wsX2_isSentence rmX2_isSentence [.ref aw] (rwW aw vrwst vrwln) out (rwW aw vrwst vrwln) := by
  refine kI.of (cc := cX2_isSentence) (maxL := 1) (by decide) rfl (Nat.le_of_ble_eq_true rfl) ?_
  intro p e s m args below meth c A H0 Q ls hx hb hml hown hts hK hN hA hP hD hS hl hret
  have hown : s.vm.findClass RX2 = some m.cls := hown
  have hl : lv_has ls 1 [(0, .ref aw)] := hl
  generalize hH : H0 = H at hP ⊢
  have hS : va_S A H0 H [] := by rw [← hH]; exact hS
  clear hH
  unfold f_X2_isSentence at hf
  refine lv_aload_n hx hb dX2_isSentence_0 rfl (lv_at hl 0 rfl) ?_
  refine va_get (D := D) (ci := 2) (v := .int vrwst) (C := RX2) (T := TX2) (N := 2) hx hb hts inX2_isSentence_X2 hown hK hP 0 rfl rfl 0 (by decide) (hts (.fieldLink RX2 11 "WordScales$Row" "stage" "I") (List.mem_of_getElem? (i := 1) rfl)) (fun _ h9 => h9) rfl dX2_isSentence_1 ?_
  refine lv_iconst (v := 2) hx hb dX2_isSentence_4 (by decide) ?_
  refine lv_icmp_eq (tgt := 16) hx hb dX2_isSentence_5 (by decide) (fun c1 => ?_) (fun c1 => ?_)
  · rw [if_pos c1] at hf
    refine lv_iconst (v := 1) hx hb dX2_isSentence_16 (by decide) ?_
    refine lv_goto (tgt := 21) hx hb dX2_isSentence_17 (by decide) ?_
    subst hf
    exact hret rfl rfl rfl hP hD hS dX2_isSentence_21
  · rw [if_neg c1] at hf
    refine lv_aload_n hx hb dX2_isSentence_8 rfl (lv_at hl 0 rfl) ?_
    refine va_get (D := D) (ci := 2) (v := .int vrwst) (C := RX2) (T := TX2) (N := 2) hx hb hts inX2_isSentence_X2 hown hK hP 0 rfl rfl 0 (by decide) (hts (.fieldLink RX2 11 "WordScales$Row" "stage" "I") (List.mem_of_getElem? (i := 1) rfl)) (fun _ h9 => h9) rfl dX2_isSentence_9 ?_
    refine lv_iconst (v := 4) hx hb dX2_isSentence_12 (by decide) ?_
    refine lv_icmp_ne (tgt := 20) hx hb dX2_isSentence_13 (by decide) (fun c2 => ?_) (fun c2 => ?_)
    · rw [if_neg c2] at hf
      refine lv_iconst (v := 0) hx hb dX2_isSentence_20 (by decide) ?_
      subst hf
      exact hret rfl rfl rfl hP hD hS dX2_isSentence_21
    · rw [if_pos c2] at hf
      refine lv_iconst (v := 1) hx hb dX2_isSentence_16 (by decide) ?_
      refine lv_goto (tgt := 21) hx hb dX2_isSentence_17 (by decide) ?_
      subst hf
      exact hret rfl rfl rfl hP hD hS dX2_isSentence_21
def f_X0_begin : Int32 := 0
theorem inX0_begin_X0 : ∀ w ∈ wsX00, w ∈ wsX0_begin := fun w h => List.mem_cons_of_mem _ (List.mem_append_right _ h)
theorem yd_X0_begin : yX0_begin.cls ≠ "java/lang/invoke/MethodHandle" ∧ yX0_begin.cls ≠ "java/lang/invoke/VarHandle" ∧ (parseMethodDescriptor yX0_begin.desc).map (fun d => d.parameters.length) = some 0 := by decide +kernel
abbrev rmX0_begin : Room := { frames := 0, cells := 0, slots := 0, locals := 0 }
set_option maxHeartbeats 4000000 in
set_option maxRecDepth 100000 in
theorem k_X0_begin (l : Launch) (D : va_G) (K : Nat → ClassId) (ar : Nat) (vrdaw : Int32) (vrdac : Int32) (vrdsp : Int32) (vrdwo : Int32) (vrdot : Int32) (out : Int32) (hf : f_X0_begin = out) : kV l D K yX0_begin wsX0_begin rmX0_begin [.ref ar] (rdW ar vrdaw vrdac vrdsp vrdwo vrdot) (rdW ar out vrdac vrdsp vrdwo vrdot) := by
  refine kV.of (cc := cX0_begin) (maxL := 1) (by decide) rfl (Nat.le_of_ble_eq_true rfl) ?_
  intro p e s m args below meth c A H0 Q ls hx hb hml hown hts hK hN hA hP hD hS hl hret
  have hown : s.vm.findClass RX0 = some m.cls := hown
  have hl : lv_has ls 1 [(0, .ref ar)] := hl
  generalize hH : H0 = H at hP ⊢
  have hS : va_S A H0 H [] := by rw [← hH]; exact hS
  clear hH
  unfold f_X0_begin at hf
  refine lv_aload_n hx hb dX0_begin_0 rfl (lv_at hl 0 rfl) ?_
  refine lv_iconst (v := 0) hx hb dX0_begin_1 (by decide) ?_
  refine va_put (D := D) (ci := 0) (v := .int 0) (ty := .int) (C := RX0) (T := TX0) (N := 5) hx hb hts inX0_begin_X0 tyX0 tyX0_ok nmX0 hown hK hP hD hS 0 rfl rfl 0 (by decide) (hts (.fieldLink RX0 11 "WordScales$ActReader" "awaited" "I") (List.mem_of_getElem? (i := 1) rfl)) (fun _ h9 => h9) rfl (tyX0_ok 0 (by decide)) rfl rfl (Nat.le_of_ble_eq_true rfl) dX0_begin_2 (fun H locs hP hD hS => ?_)
  have hP : va_P D vwCl (rdW ar 0 vrdac vrdsp vrdwo vrdot) H := hP
  have hD : va_D A (rdW ar 0 vrdac vrdsp vrdwo vrdot) := hD
  subst hf
  exact hret rfl hP hD hS dX0_begin_5
def f_X0_isBetweenActs (vrdaw : Int32) : Int32 := if vrdaw = 0 then (1) else (0)
theorem inX0_isBetweenActs_X0 : ∀ w ∈ wsX00, w ∈ wsX0_isBetweenActs := fun w h => List.mem_cons_of_mem _ (List.mem_append_right _ h)
theorem yd_X0_isBetweenActs : yX0_isBetweenActs.cls ≠ "java/lang/invoke/MethodHandle" ∧ yX0_isBetweenActs.cls ≠ "java/lang/invoke/VarHandle" ∧ (parseMethodDescriptor yX0_isBetweenActs.desc).map (fun d => d.parameters.length) = some 0 := by decide +kernel
abbrev rmX0_isBetweenActs : Room := { frames := 0, cells := 0, slots := 0, locals := 0 }
set_option maxHeartbeats 4000000 in
set_option maxRecDepth 100000 in
theorem k_X0_isBetweenActs (l : Launch) (D : va_G) (K : Nat → ClassId) (ar : Nat) (vrdaw : Int32) (vrdac : Int32) (vrdsp : Int32) (vrdwo : Int32) (vrdot : Int32) (out : Int32) (hf : f_X0_isBetweenActs vrdaw = out) : kI l D K .boolean yX0_isBetweenActs wsX0_isBetweenActs rmX0_isBetweenActs [.ref ar] (rdW ar vrdaw vrdac vrdsp vrdwo vrdot) out (rdW ar vrdaw vrdac vrdsp vrdwo vrdot) := by
  refine kI.of (cc := cX0_isBetweenActs) (maxL := 1) (by decide) rfl (Nat.le_of_ble_eq_true rfl) ?_
  intro p e s m args below meth c A H0 Q ls hx hb hml hown hts hK hN hA hP hD hS hl hret
  have hown : s.vm.findClass RX0 = some m.cls := hown
  have hl : lv_has ls 1 [(0, .ref ar)] := hl
  generalize hH : H0 = H at hP ⊢
  have hS : va_S A H0 H [] := by rw [← hH]; exact hS
  clear hH
  unfold f_X0_isBetweenActs at hf
  refine lv_aload_n hx hb dX0_isBetweenActs_0 rfl (lv_at hl 0 rfl) ?_
  refine va_get (D := D) (ci := 0) (v := .int vrdaw) (C := RX0) (T := TX0) (N := 5) hx hb hts inX0_isBetweenActs_X0 hown hK hP 0 rfl rfl 0 (by decide) (hts (.fieldLink RX0 11 "WordScales$ActReader" "awaited" "I") (List.mem_of_getElem? (i := 1) rfl)) (fun _ h9 => h9) rfl dX0_isBetweenActs_1 ?_
  refine lv_if_ne (tgt := 11) hx hb dX0_isBetweenActs_4 (by decide) (fun c1 => ?_) (fun c1 => ?_)
  · rw [if_neg c1] at hf
    refine lv_iconst (v := 0) hx hb dX0_isBetweenActs_11 (by decide) ?_
    subst hf
    exact hret rfl rfl rfl hP hD hS dX0_isBetweenActs_12
  · rw [if_pos c1] at hf
    refine lv_iconst (v := 1) hx hb dX0_isBetweenActs_7 (by decide) ?_
    refine lv_goto (tgt := 12) hx hb dX0_isBetweenActs_8 (by decide) ?_
    subst hf
    exact hret rfl rfl rfl hP hD hS dX0_isBetweenActs_12
def f_X0_takeDot (vrdac : Int32) (p0 : Int32) : Int32 × Int32 := if p0 = 46 then ((1, 4)) else ((0, vrdac))
theorem inX0_takeDot_X0 : ∀ w ∈ wsX00, w ∈ wsX0_takeDot := fun w h => List.mem_cons_of_mem _ (List.mem_append_right _ h)
theorem yd_X0_takeDot : yX0_takeDot.cls ≠ "java/lang/invoke/MethodHandle" ∧ yX0_takeDot.cls ≠ "java/lang/invoke/VarHandle" ∧ (parseMethodDescriptor yX0_takeDot.desc).map (fun d => d.parameters.length) = some 1 := by decide +kernel
abbrev rmX0_takeDot : Room := { frames := 0, cells := 0, slots := 0, locals := 0 }
set_option maxHeartbeats 4000000 in
set_option maxRecDepth 100000 in
theorem k_X0_takeDot (l : Launch) (D : va_G) (K : Nat → ClassId) (ar : Nat) (vrdaw : Int32) (vrdac : Int32) (vrdsp : Int32) (vrdwo : Int32) (vrdot : Int32) (p0 : Int32) (out : Int32 × Int32) (hf : f_X0_takeDot vrdac p0 = out) : kI l D K .boolean yX0_takeDot wsX0_takeDot rmX0_takeDot [.ref ar, .int p0] (rdW ar vrdaw vrdac vrdsp vrdwo vrdot) out.1 (rdW ar vrdaw out.2 vrdsp vrdwo vrdot) := by
  refine kI.of (cc := cX0_takeDot) (maxL := 2) (by decide) rfl (Nat.le_of_ble_eq_true rfl) ?_
  intro p e s m args below meth c A H0 Q ls hx hb hml hown hts hK hN hA hP hD hS hl hret
  have hown : s.vm.findClass RX0 = some m.cls := hown
  have hl : lv_has ls 2 [(0, .ref ar), (1, .int p0)] := hl
  generalize hH : H0 = H at hP ⊢
  have hS : va_S A H0 H [] := by rw [← hH]; exact hS
  clear hH
  unfold f_X0_takeDot at hf
  refine lv_iload_n hx hb dX0_takeDot_0 rfl (lv_at hl 1 rfl) ?_
  refine lv_bipush (v := 46) hx hb dX0_takeDot_1 (by decide) ?_
  refine lv_icmp_eq (tgt := 8) hx hb dX0_takeDot_3 (by decide) (fun c1 => ?_) (fun c1 => ?_)
  · rw [if_pos c1] at hf
    refine lv_aload_n hx hb dX0_takeDot_8 rfl (lv_at hl 0 rfl) ?_
    refine lv_iconst (v := 4) hx hb dX0_takeDot_9 (by decide) ?_
    refine va_put (D := D) (ci := 0) (v := .int 4) (ty := .int) (C := RX0) (T := TX0) (N := 5) hx hb hts inX0_takeDot_X0 tyX0 tyX0_ok nmX0 hown hK hP hD hS 0 rfl rfl 1 (by decide) (hts (.fieldLink RX0 15 "WordScales$ActReader" "act" "I") (List.mem_of_getElem? (i := 1) rfl)) (fun _ h9 => h9) rfl (tyX0_ok 1 (by decide)) rfl rfl (Nat.le_of_ble_eq_true rfl) dX0_takeDot_10 (fun H locs hP hD hS => ?_)
    have hP : va_P D vwCl (rdW ar vrdaw 4 vrdsp vrdwo vrdot) H := hP
    have hD : va_D A (rdW ar vrdaw 4 vrdsp vrdwo vrdot) := hD
    refine lv_iconst (v := 1) hx hb dX0_takeDot_13 (by decide) ?_
    subst hf
    exact hret rfl rfl rfl hP hD hS dX0_takeDot_14
  · rw [if_neg c1] at hf
    refine lv_iconst (v := 0) hx hb dX0_takeDot_6 (by decide) ?_
    subst hf
    exact hret rfl rfl rfl hP hD hS dX0_takeDot_7
def f_X0_takeSpeaker (vrdaw : Int32) (vrdac : Int32) (vrdsp : Int32) (p0 : Int32) : Int32 × Int32 × Int32 × Int32 := bd (f_X4_isSpeaker (p0 - 65)) (fun o1 => if o1 = 0 then ((0, vrdaw, vrdac, vrdsp)) else ((1, 1, 2, (p0 - 65))))
theorem inX0_takeSpeaker_X0 : ∀ w ∈ wsX00, w ∈ wsX0_takeSpeaker := fun w h => List.mem_cons_of_mem _ (List.mem_append_right _ h)
theorem yd_X0_takeSpeaker : yX0_takeSpeaker.cls ≠ "java/lang/invoke/MethodHandle" ∧ yX0_takeSpeaker.cls ≠ "java/lang/invoke/VarHandle" ∧ (parseMethodDescriptor yX0_takeSpeaker.desc).map (fun d => d.parameters.length) = some 1 := by decide +kernel
abbrev rmX0_takeSpeaker : Room := { frames := 2, cells := 0, slots := 0, locals := 42 }
set_option maxHeartbeats 4000000 in
set_option maxRecDepth 100000 in
theorem k_X0_takeSpeaker (l : Launch) (D : va_G) (K : Nat → ClassId) (ar : Nat) (vrdaw : Int32) (vrdac : Int32) (vrdsp : Int32) (vrdwo : Int32) (vrdot : Int32) (p0 : Int32) (out : Int32 × Int32 × Int32 × Int32) (hf : f_X0_takeSpeaker vrdaw vrdac vrdsp p0 = out) : kI l D K .boolean yX0_takeSpeaker wsX0_takeSpeaker rmX0_takeSpeaker [.ref ar, .int p0] (rdW ar vrdaw vrdac vrdsp vrdwo vrdot) out.1 (rdW ar out.2.1 out.2.2.1 out.2.2.2 vrdwo vrdot) := by
  refine kI.of (cc := cX0_takeSpeaker) (maxL := 2) (by decide) rfl (Nat.le_of_ble_eq_true rfl) ?_
  intro p e s m args below meth c A H0 Q ls hx hb hml hown hts hK hN hA hP hD hS hl hret
  have hown : s.vm.findClass RX0 = some m.cls := hown
  have hl : lv_has ls 2 [(0, .ref ar), (1, .int p0)] := hl
  generalize hH : H0 = H at hP ⊢
  have hS : va_S A H0 H [] := by rw [← hH]; exact hS
  clear hH
  unfold f_X0_takeSpeaker at hf
  refine lv_iload_n hx hb dX0_takeSpeaker_0 rfl (lv_at hl 1 rfl) ?_
  refine lv_bipush (v := 65) hx hb dX0_takeSpeaker_1 (by decide) ?_
  refine lv_isub hx hb dX0_takeSpeaker_3 ?_
  obtain ⟨o1, ho1, hf⟩ := bd_el hf
  refine kc0_i (D := D) (va_runSN (As := [.int (p0 - 65)]) (rest := []) ⟨hx, hb, hml, hown, hts⟩ ((k_X4_isSpeaker l D K (p0 - 65) o1 ho1) H.size) ⟨va_cnB 1 hts gX0_takeSpeaker_X4_isSpeaker_n43 rfl rfl rfl (hN _ (List.mem_of_getElem? (i := 42) rfl)) (hts (.initialized RX4) (List.mem_of_getElem? (i := 5) rfl)) yd_X4_isSpeaker ⟨Nat.le_of_ble_eq_true rfl, Nat.le_of_ble_eq_true rfl⟩, (hts (.static yX4_isSpeaker) (List.mem_of_getElem? (i := 4) rfl)), trivial⟩ (kPreS va_P_nil (va_D_nil (A := fun _ => True)) hK hN) rfl rfl hl.1 rfl (lv_room (Nat.le_of_ble_eq_true rfl)) dX0_takeSpeaker_4 ⟨Nat.le_of_ble_eq_true rfl, Nat.le_of_ble_eq_true rfl⟩) hP hS hA (fun hzo1 H locs hP hS => ?_)
  refine lv_if_ne (tgt := 12) hx hb dX0_takeSpeaker_7 (by decide) (fun c2 => ?_) (fun c2 => ?_)
  · rw [if_neg c2] at hf
    refine lv_aload_n hx hb dX0_takeSpeaker_12 rfl (lv_at hl 0 rfl) ?_
    refine lv_iload_n hx hb dX0_takeSpeaker_13 rfl (lv_at hl 1 rfl) ?_
    refine lv_bipush (v := 65) hx hb dX0_takeSpeaker_14 (by decide) ?_
    refine lv_isub hx hb dX0_takeSpeaker_16 ?_
    refine va_put (D := D) (ci := 0) (v := .int (p0 - 65)) (ty := .int) (C := RX0) (T := TX0) (N := 5) hx hb hts inX0_takeSpeaker_X0 tyX0 tyX0_ok nmX0 hown hK hP hD hS 0 rfl rfl 2 (by decide) (hts (.fieldLink RX0 18 "WordScales$ActReader" "speaker" "I") (List.mem_of_getElem? (i := 1) rfl)) (fun _ h9 => h9) rfl (tyX0_ok 2 (by decide)) rfl rfl (Nat.le_of_ble_eq_true rfl) dX0_takeSpeaker_17 (fun H locs hP hD hS => ?_)
    have hP : va_P D vwCl (rdW ar vrdaw vrdac (p0 - 65) vrdwo vrdot) H := hP
    have hD : va_D A (rdW ar vrdaw vrdac (p0 - 65) vrdwo vrdot) := hD
    refine lv_aload_n hx hb dX0_takeSpeaker_20 rfl (lv_at hl 0 rfl) ?_
    refine lv_iconst (v := 2) hx hb dX0_takeSpeaker_21 (by decide) ?_
    refine va_put (D := D) (ci := 0) (v := .int 2) (ty := .int) (C := RX0) (T := TX0) (N := 5) hx hb hts inX0_takeSpeaker_X0 tyX0 tyX0_ok nmX0 hown hK hP hD hS 0 rfl rfl 1 (by decide) (hts (.fieldLink RX0 15 "WordScales$ActReader" "act" "I") (List.mem_of_getElem? (i := 2) rfl)) (fun _ h9 => h9) rfl (tyX0_ok 1 (by decide)) rfl rfl (Nat.le_of_ble_eq_true rfl) dX0_takeSpeaker_22 (fun H locs hP hD hS => ?_)
    have hP : va_P D vwCl (rdW ar vrdaw 2 (p0 - 65) vrdwo vrdot) H := hP
    have hD : va_D A (rdW ar vrdaw 2 (p0 - 65) vrdwo vrdot) := hD
    refine lv_aload_n hx hb dX0_takeSpeaker_25 rfl (lv_at hl 0 rfl) ?_
    refine lv_iconst (v := 1) hx hb dX0_takeSpeaker_26 (by decide) ?_
    refine va_put (D := D) (ci := 0) (v := .int 1) (ty := .int) (C := RX0) (T := TX0) (N := 5) hx hb hts inX0_takeSpeaker_X0 tyX0 tyX0_ok nmX0 hown hK hP hD hS 0 rfl rfl 0 (by decide) (hts (.fieldLink RX0 11 "WordScales$ActReader" "awaited" "I") (List.mem_of_getElem? (i := 3) rfl)) (fun _ h9 => h9) rfl (tyX0_ok 0 (by decide)) rfl rfl (Nat.le_of_ble_eq_true rfl) dX0_takeSpeaker_27 (fun H locs hP hD hS => ?_)
    have hP : va_P D vwCl (rdW ar 1 2 (p0 - 65) vrdwo vrdot) H := hP
    have hD : va_D A (rdW ar 1 2 (p0 - 65) vrdwo vrdot) := hD
    refine lv_iconst (v := 1) hx hb dX0_takeSpeaker_30 (by decide) ?_
    subst hf
    exact hret rfl rfl rfl hP hD hS dX0_takeSpeaker_31
  · rw [if_pos c2] at hf
    refine lv_iconst (v := 0) hx hb dX0_takeSpeaker_10 (by decide) ?_
    subst hf
    exact hret rfl rfl rfl hP hD hS dX0_takeSpeaker_11
def f_X0_takeMark (vrdaw : Int32) (vrdac : Int32) (p0 : Int32) : Int32 × Int32 × Int32 := if p0 = 43 then ((1, 3, 0)) else (if p0 = 45 then ((1, 3, 1)) else (if p0 = 62 then ((1, 2, 3)) else ((0, vrdaw, vrdac))))
theorem inX0_takeMark_X0 : ∀ w ∈ wsX00, w ∈ wsX0_takeMark := fun w h => List.mem_cons_of_mem _ (List.mem_append_right _ h)
theorem yd_X0_takeMark : yX0_takeMark.cls ≠ "java/lang/invoke/MethodHandle" ∧ yX0_takeMark.cls ≠ "java/lang/invoke/VarHandle" ∧ (parseMethodDescriptor yX0_takeMark.desc).map (fun d => d.parameters.length) = some 1 := by decide +kernel
abbrev rmX0_takeMark : Room := { frames := 0, cells := 0, slots := 0, locals := 0 }
set_option maxHeartbeats 4000000 in
set_option maxRecDepth 100000 in
theorem k_X0_takeMark (l : Launch) (D : va_G) (K : Nat → ClassId) (ar : Nat) (vrdaw : Int32) (vrdac : Int32) (vrdsp : Int32) (vrdwo : Int32) (vrdot : Int32) (p0 : Int32) (out : Int32 × Int32 × Int32) (hf : f_X0_takeMark vrdaw vrdac p0 = out) : kI l D K .boolean yX0_takeMark wsX0_takeMark rmX0_takeMark [.ref ar, .int p0] (rdW ar vrdaw vrdac vrdsp vrdwo vrdot) out.1 (rdW ar out.2.1 out.2.2 vrdsp vrdwo vrdot) := by
  refine kI.of (cc := cX0_takeMark) (maxL := 2) (by decide) rfl (Nat.le_of_ble_eq_true rfl) ?_
  intro p e s m args below meth c A H0 Q ls hx hb hml hown hts hK hN hA hP hD hS hl hret
  have hown : s.vm.findClass RX0 = some m.cls := hown
  have hl : lv_has ls 2 [(0, .ref ar), (1, .int p0)] := hl
  generalize hH : H0 = H at hP ⊢
  have hS : va_S A H0 H [] := by rw [← hH]; exact hS
  clear hH
  unfold f_X0_takeMark at hf
  refine lv_iload_n hx hb dX0_takeMark_0 rfl (lv_at hl 1 rfl) ?_
  refine lv_look3 (t0 := 36) (t1 := 48) (t2 := 60) (td := 72) hx hb dX0_takeMark_1 (by decide) (by decide) (by decide) (by decide) (fun c1 => ?_) (fun c1 c2 => ?_) (fun c1 c2 c3 => ?_) (fun c1 c2 c3 => ?_)
  · rw [if_pos c1] at hf
    refine lv_aload_n hx hb dX0_takeMark_36 rfl (lv_at hl 0 rfl) ?_
    refine lv_iconst (v := 0) hx hb dX0_takeMark_37 (by decide) ?_
    refine va_put (D := D) (ci := 0) (v := .int 0) (ty := .int) (C := RX0) (T := TX0) (N := 5) hx hb hts inX0_takeMark_X0 tyX0 tyX0_ok nmX0 hown hK hP hD hS 0 rfl rfl 1 (by decide) (hts (.fieldLink RX0 15 "WordScales$ActReader" "act" "I") (List.mem_of_getElem? (i := 1) rfl)) (fun _ h9 => h9) rfl (tyX0_ok 1 (by decide)) rfl rfl (Nat.le_of_ble_eq_true rfl) dX0_takeMark_38 (fun H locs hP hD hS => ?_)
    have hP : va_P D vwCl (rdW ar vrdaw 0 vrdsp vrdwo vrdot) H := hP
    have hD : va_D A (rdW ar vrdaw 0 vrdsp vrdwo vrdot) := hD
    refine lv_aload_n hx hb dX0_takeMark_41 rfl (lv_at hl 0 rfl) ?_
    refine lv_iconst (v := 3) hx hb dX0_takeMark_42 (by decide) ?_
    refine va_put (D := D) (ci := 0) (v := .int 3) (ty := .int) (C := RX0) (T := TX0) (N := 5) hx hb hts inX0_takeMark_X0 tyX0 tyX0_ok nmX0 hown hK hP hD hS 0 rfl rfl 0 (by decide) (hts (.fieldLink RX0 11 "WordScales$ActReader" "awaited" "I") (List.mem_of_getElem? (i := 2) rfl)) (fun _ h9 => h9) rfl (tyX0_ok 0 (by decide)) rfl rfl (Nat.le_of_ble_eq_true rfl) dX0_takeMark_43 (fun H locs hP hD hS => ?_)
    have hP : va_P D vwCl (rdW ar 3 0 vrdsp vrdwo vrdot) H := hP
    have hD : va_D A (rdW ar 3 0 vrdsp vrdwo vrdot) := hD
    refine lv_iconst (v := 1) hx hb dX0_takeMark_46 (by decide) ?_
    subst hf
    exact hret rfl rfl rfl hP hD hS dX0_takeMark_47
  · rw [if_neg c1, if_pos c2] at hf
    refine lv_aload_n hx hb dX0_takeMark_48 rfl (lv_at hl 0 rfl) ?_
    refine lv_iconst (v := 1) hx hb dX0_takeMark_49 (by decide) ?_
    refine va_put (D := D) (ci := 0) (v := .int 1) (ty := .int) (C := RX0) (T := TX0) (N := 5) hx hb hts inX0_takeMark_X0 tyX0 tyX0_ok nmX0 hown hK hP hD hS 0 rfl rfl 1 (by decide) (hts (.fieldLink RX0 15 "WordScales$ActReader" "act" "I") (List.mem_of_getElem? (i := 1) rfl)) (fun _ h9 => h9) rfl (tyX0_ok 1 (by decide)) rfl rfl (Nat.le_of_ble_eq_true rfl) dX0_takeMark_50 (fun H locs hP hD hS => ?_)
    have hP : va_P D vwCl (rdW ar vrdaw 1 vrdsp vrdwo vrdot) H := hP
    have hD : va_D A (rdW ar vrdaw 1 vrdsp vrdwo vrdot) := hD
    refine lv_aload_n hx hb dX0_takeMark_53 rfl (lv_at hl 0 rfl) ?_
    refine lv_iconst (v := 3) hx hb dX0_takeMark_54 (by decide) ?_
    refine va_put (D := D) (ci := 0) (v := .int 3) (ty := .int) (C := RX0) (T := TX0) (N := 5) hx hb hts inX0_takeMark_X0 tyX0 tyX0_ok nmX0 hown hK hP hD hS 0 rfl rfl 0 (by decide) (hts (.fieldLink RX0 11 "WordScales$ActReader" "awaited" "I") (List.mem_of_getElem? (i := 2) rfl)) (fun _ h9 => h9) rfl (tyX0_ok 0 (by decide)) rfl rfl (Nat.le_of_ble_eq_true rfl) dX0_takeMark_55 (fun H locs hP hD hS => ?_)
    have hP : va_P D vwCl (rdW ar 3 1 vrdsp vrdwo vrdot) H := hP
    have hD : va_D A (rdW ar 3 1 vrdsp vrdwo vrdot) := hD
    refine lv_iconst (v := 1) hx hb dX0_takeMark_58 (by decide) ?_
    subst hf
    exact hret rfl rfl rfl hP hD hS dX0_takeMark_59
  · rw [if_neg c1, if_neg c2, if_pos c3] at hf
    refine lv_aload_n hx hb dX0_takeMark_60 rfl (lv_at hl 0 rfl) ?_
    refine lv_iconst (v := 3) hx hb dX0_takeMark_61 (by decide) ?_
    refine va_put (D := D) (ci := 0) (v := .int 3) (ty := .int) (C := RX0) (T := TX0) (N := 5) hx hb hts inX0_takeMark_X0 tyX0 tyX0_ok nmX0 hown hK hP hD hS 0 rfl rfl 1 (by decide) (hts (.fieldLink RX0 15 "WordScales$ActReader" "act" "I") (List.mem_of_getElem? (i := 1) rfl)) (fun _ h9 => h9) rfl (tyX0_ok 1 (by decide)) rfl rfl (Nat.le_of_ble_eq_true rfl) dX0_takeMark_62 (fun H locs hP hD hS => ?_)
    have hP : va_P D vwCl (rdW ar vrdaw 3 vrdsp vrdwo vrdot) H := hP
    have hD : va_D A (rdW ar vrdaw 3 vrdsp vrdwo vrdot) := hD
    refine lv_aload_n hx hb dX0_takeMark_65 rfl (lv_at hl 0 rfl) ?_
    refine lv_iconst (v := 2) hx hb dX0_takeMark_66 (by decide) ?_
    refine va_put (D := D) (ci := 0) (v := .int 2) (ty := .int) (C := RX0) (T := TX0) (N := 5) hx hb hts inX0_takeMark_X0 tyX0 tyX0_ok nmX0 hown hK hP hD hS 0 rfl rfl 0 (by decide) (hts (.fieldLink RX0 11 "WordScales$ActReader" "awaited" "I") (List.mem_of_getElem? (i := 2) rfl)) (fun _ h9 => h9) rfl (tyX0_ok 0 (by decide)) rfl rfl (Nat.le_of_ble_eq_true rfl) dX0_takeMark_67 (fun H locs hP hD hS => ?_)
    have hP : va_P D vwCl (rdW ar 2 3 vrdsp vrdwo vrdot) H := hP
    have hD : va_D A (rdW ar 2 3 vrdsp vrdwo vrdot) := hD
    refine lv_iconst (v := 1) hx hb dX0_takeMark_70 (by decide) ?_
    subst hf
    exact hret rfl rfl rfl hP hD hS dX0_takeMark_71
  · rw [if_neg c1, if_neg c2, if_neg c3] at hf
    refine lv_iconst (v := 0) hx hb dX0_takeMark_72 (by decide) ?_
    subst hf
    exact hret rfl rfl rfl hP hD hS dX0_takeMark_73
def f_X0_takeOther (vrdaw : Int32) (vrdot : Int32) (p0 : Int32) : Int32 × Int32 × Int32 := bd (f_X4_isSpeaker (p0 - 65)) (fun o1 => if o1 = 0 then ((0, vrdaw, vrdot)) else ((1, 3, (p0 - 65))))
theorem inX0_takeOther_X0 : ∀ w ∈ wsX00, w ∈ wsX0_takeOther := fun w h => List.mem_cons_of_mem _ (List.mem_append_right _ h)
theorem yd_X0_takeOther : yX0_takeOther.cls ≠ "java/lang/invoke/MethodHandle" ∧ yX0_takeOther.cls ≠ "java/lang/invoke/VarHandle" ∧ (parseMethodDescriptor yX0_takeOther.desc).map (fun d => d.parameters.length) = some 1 := by decide +kernel
abbrev rmX0_takeOther : Room := { frames := 2, cells := 0, slots := 0, locals := 42 }
set_option maxHeartbeats 4000000 in
set_option maxRecDepth 100000 in
theorem k_X0_takeOther (l : Launch) (D : va_G) (K : Nat → ClassId) (ar : Nat) (vrdaw : Int32) (vrdac : Int32) (vrdsp : Int32) (vrdwo : Int32) (vrdot : Int32) (p0 : Int32) (out : Int32 × Int32 × Int32) (hf : f_X0_takeOther vrdaw vrdot p0 = out) : kI l D K .boolean yX0_takeOther wsX0_takeOther rmX0_takeOther [.ref ar, .int p0] (rdW ar vrdaw vrdac vrdsp vrdwo vrdot) out.1 (rdW ar out.2.1 vrdac vrdsp vrdwo out.2.2) := by
  refine kI.of (cc := cX0_takeOther) (maxL := 2) (by decide) rfl (Nat.le_of_ble_eq_true rfl) ?_
  intro p e s m args below meth c A H0 Q ls hx hb hml hown hts hK hN hA hP hD hS hl hret
  have hown : s.vm.findClass RX0 = some m.cls := hown
  have hl : lv_has ls 2 [(0, .ref ar), (1, .int p0)] := hl
  generalize hH : H0 = H at hP ⊢
  have hS : va_S A H0 H [] := by rw [← hH]; exact hS
  clear hH
  unfold f_X0_takeOther at hf
  refine lv_iload_n hx hb dX0_takeOther_0 rfl (lv_at hl 1 rfl) ?_
  refine lv_bipush (v := 65) hx hb dX0_takeOther_1 (by decide) ?_
  refine lv_isub hx hb dX0_takeOther_3 ?_
  obtain ⟨o1, ho1, hf⟩ := bd_el hf
  refine kc0_i (D := D) (va_runSN (As := [.int (p0 - 65)]) (rest := []) ⟨hx, hb, hml, hown, hts⟩ ((k_X4_isSpeaker l D K (p0 - 65) o1 ho1) H.size) ⟨va_cnB 1 hts gX0_takeOther_X4_isSpeaker_n43 rfl rfl rfl (hN _ (List.mem_of_getElem? (i := 42) rfl)) (hts (.initialized RX4) (List.mem_of_getElem? (i := 4) rfl)) yd_X4_isSpeaker ⟨Nat.le_of_ble_eq_true rfl, Nat.le_of_ble_eq_true rfl⟩, (hts (.static yX4_isSpeaker) (List.mem_of_getElem? (i := 3) rfl)), trivial⟩ (kPreS va_P_nil (va_D_nil (A := fun _ => True)) hK hN) rfl rfl hl.1 rfl (lv_room (Nat.le_of_ble_eq_true rfl)) dX0_takeOther_4 ⟨Nat.le_of_ble_eq_true rfl, Nat.le_of_ble_eq_true rfl⟩) hP hS hA (fun hzo1 H locs hP hS => ?_)
  refine lv_if_ne (tgt := 12) hx hb dX0_takeOther_7 (by decide) (fun c2 => ?_) (fun c2 => ?_)
  · rw [if_neg c2] at hf
    refine lv_aload_n hx hb dX0_takeOther_12 rfl (lv_at hl 0 rfl) ?_
    refine lv_iload_n hx hb dX0_takeOther_13 rfl (lv_at hl 1 rfl) ?_
    refine lv_bipush (v := 65) hx hb dX0_takeOther_14 (by decide) ?_
    refine lv_isub hx hb dX0_takeOther_16 ?_
    refine va_put (D := D) (ci := 0) (v := .int (p0 - 65)) (ty := .int) (C := RX0) (T := TX0) (N := 5) hx hb hts inX0_takeOther_X0 tyX0 tyX0_ok nmX0 hown hK hP hD hS 0 rfl rfl 4 (by decide) (hts (.fieldLink RX0 24 "WordScales$ActReader" "other" "I") (List.mem_of_getElem? (i := 1) rfl)) (fun _ h9 => h9) rfl (tyX0_ok 4 (by decide)) rfl rfl (Nat.le_of_ble_eq_true rfl) dX0_takeOther_17 (fun H locs hP hD hS => ?_)
    have hP : va_P D vwCl (rdW ar vrdaw vrdac vrdsp vrdwo (p0 - 65)) H := hP
    have hD : va_D A (rdW ar vrdaw vrdac vrdsp vrdwo (p0 - 65)) := hD
    refine lv_aload_n hx hb dX0_takeOther_20 rfl (lv_at hl 0 rfl) ?_
    refine lv_iconst (v := 3) hx hb dX0_takeOther_21 (by decide) ?_
    refine va_put (D := D) (ci := 0) (v := .int 3) (ty := .int) (C := RX0) (T := TX0) (N := 5) hx hb hts inX0_takeOther_X0 tyX0 tyX0_ok nmX0 hown hK hP hD hS 0 rfl rfl 0 (by decide) (hts (.fieldLink RX0 11 "WordScales$ActReader" "awaited" "I") (List.mem_of_getElem? (i := 2) rfl)) (fun _ h9 => h9) rfl (tyX0_ok 0 (by decide)) rfl rfl (Nat.le_of_ble_eq_true rfl) dX0_takeOther_22 (fun H locs hP hD hS => ?_)
    have hP : va_P D vwCl (rdW ar 3 vrdac vrdsp vrdwo (p0 - 65)) H := hP
    have hD : va_D A (rdW ar 3 vrdac vrdsp vrdwo (p0 - 65)) := hD
    refine lv_iconst (v := 1) hx hb dX0_takeOther_25 (by decide) ?_
    subst hf
    exact hret rfl rfl rfl hP hD hS dX0_takeOther_26
  · rw [if_pos c2] at hf
    refine lv_iconst (v := 0) hx hb dX0_takeOther_10 (by decide) ?_
    subst hf
    exact hret rfl rfl rfl hP hD hS dX0_takeOther_11
def f_X0_takeWord (vrdaw : Int32) (vrdwo : Int32) (p0 : Int32) : Int32 × Int32 × Int32 := bd (f_X4_isWord (p0 - 97)) (fun o1 => if o1 = 0 then ((0, vrdaw, vrdwo)) else ((1, 0, (p0 - 97))))
theorem inX0_takeWord_X0 : ∀ w ∈ wsX00, w ∈ wsX0_takeWord := fun w h => List.mem_cons_of_mem _ (List.mem_append_right _ h)
theorem yd_X0_takeWord : yX0_takeWord.cls ≠ "java/lang/invoke/MethodHandle" ∧ yX0_takeWord.cls ≠ "java/lang/invoke/VarHandle" ∧ (parseMethodDescriptor yX0_takeWord.desc).map (fun d => d.parameters.length) = some 1 := by decide +kernel
abbrev rmX0_takeWord : Room := { frames := 2, cells := 0, slots := 0, locals := 42 }
set_option maxHeartbeats 4000000 in
set_option maxRecDepth 100000 in
theorem k_X0_takeWord (l : Launch) (D : va_G) (K : Nat → ClassId) (ar : Nat) (vrdaw : Int32) (vrdac : Int32) (vrdsp : Int32) (vrdwo : Int32) (vrdot : Int32) (p0 : Int32) (out : Int32 × Int32 × Int32) (hf : f_X0_takeWord vrdaw vrdwo p0 = out) : kI l D K .boolean yX0_takeWord wsX0_takeWord rmX0_takeWord [.ref ar, .int p0] (rdW ar vrdaw vrdac vrdsp vrdwo vrdot) out.1 (rdW ar out.2.1 vrdac vrdsp out.2.2 vrdot) := by
  refine kI.of (cc := cX0_takeWord) (maxL := 2) (by decide) rfl (Nat.le_of_ble_eq_true rfl) ?_
  intro p e s m args below meth c A H0 Q ls hx hb hml hown hts hK hN hA hP hD hS hl hret
  have hown : s.vm.findClass RX0 = some m.cls := hown
  have hl : lv_has ls 2 [(0, .ref ar), (1, .int p0)] := hl
  generalize hH : H0 = H at hP ⊢
  have hS : va_S A H0 H [] := by rw [← hH]; exact hS
  clear hH
  unfold f_X0_takeWord at hf
  refine lv_iload_n hx hb dX0_takeWord_0 rfl (lv_at hl 1 rfl) ?_
  refine lv_bipush (v := 97) hx hb dX0_takeWord_1 (by decide) ?_
  refine lv_isub hx hb dX0_takeWord_3 ?_
  obtain ⟨o1, ho1, hf⟩ := bd_el hf
  refine kc0_i (D := D) (va_runSN (As := [.int (p0 - 97)]) (rest := []) ⟨hx, hb, hml, hown, hts⟩ ((k_X4_isWord l D K (p0 - 97) o1 ho1) H.size) ⟨va_cnB 1 hts gX0_takeWord_X4_isWord_n46 rfl rfl rfl (hN _ (List.mem_of_getElem? (i := 43) rfl)) (hts (.initialized RX4) (List.mem_of_getElem? (i := 4) rfl)) yd_X4_isWord ⟨Nat.le_of_ble_eq_true rfl, Nat.le_of_ble_eq_true rfl⟩, (hts (.static yX4_isWord) (List.mem_of_getElem? (i := 3) rfl)), trivial⟩ (kPreS va_P_nil (va_D_nil (A := fun _ => True)) hK hN) rfl rfl hl.1 rfl (lv_room (Nat.le_of_ble_eq_true rfl)) dX0_takeWord_4 ⟨Nat.le_of_ble_eq_true rfl, Nat.le_of_ble_eq_true rfl⟩) hP hS hA (fun hzo1 H locs hP hS => ?_)
  refine lv_if_ne (tgt := 12) hx hb dX0_takeWord_7 (by decide) (fun c2 => ?_) (fun c2 => ?_)
  · rw [if_neg c2] at hf
    refine lv_aload_n hx hb dX0_takeWord_12 rfl (lv_at hl 0 rfl) ?_
    refine lv_iload_n hx hb dX0_takeWord_13 rfl (lv_at hl 1 rfl) ?_
    refine lv_bipush (v := 97) hx hb dX0_takeWord_14 (by decide) ?_
    refine lv_isub hx hb dX0_takeWord_16 ?_
    refine va_put (D := D) (ci := 0) (v := .int (p0 - 97)) (ty := .int) (C := RX0) (T := TX0) (N := 5) hx hb hts inX0_takeWord_X0 tyX0 tyX0_ok nmX0 hown hK hP hD hS 0 rfl rfl 3 (by decide) (hts (.fieldLink RX0 21 "WordScales$ActReader" "word" "I") (List.mem_of_getElem? (i := 1) rfl)) (fun _ h9 => h9) rfl (tyX0_ok 3 (by decide)) rfl rfl (Nat.le_of_ble_eq_true rfl) dX0_takeWord_17 (fun H locs hP hD hS => ?_)
    have hP : va_P D vwCl (rdW ar vrdaw vrdac vrdsp (p0 - 97) vrdot) H := hP
    have hD : va_D A (rdW ar vrdaw vrdac vrdsp (p0 - 97) vrdot) := hD
    refine lv_aload_n hx hb dX0_takeWord_20 rfl (lv_at hl 0 rfl) ?_
    refine lv_iconst (v := 0) hx hb dX0_takeWord_21 (by decide) ?_
    refine va_put (D := D) (ci := 0) (v := .int 0) (ty := .int) (C := RX0) (T := TX0) (N := 5) hx hb hts inX0_takeWord_X0 tyX0 tyX0_ok nmX0 hown hK hP hD hS 0 rfl rfl 0 (by decide) (hts (.fieldLink RX0 11 "WordScales$ActReader" "awaited" "I") (List.mem_of_getElem? (i := 2) rfl)) (fun _ h9 => h9) rfl (tyX0_ok 0 (by decide)) rfl rfl (Nat.le_of_ble_eq_true rfl) dX0_takeWord_22 (fun H locs hP hD hS => ?_)
    have hP : va_P D vwCl (rdW ar 0 vrdac vrdsp (p0 - 97) vrdot) H := hP
    have hD : va_D A (rdW ar 0 vrdac vrdsp (p0 - 97) vrdot) := hD
    refine lv_iconst (v := 1) hx hb dX0_takeWord_25 (by decide) ?_
    subst hf
    exact hret rfl rfl rfl hP hD hS dX0_takeWord_26
  · rw [if_pos c2] at hf
    refine lv_iconst (v := 0) hx hb dX0_takeWord_10 (by decide) ?_
    subst hf
    exact hret rfl rfl rfl hP hD hS dX0_takeWord_11
def f_X0_take (vrdaw : Int32) (vrdac : Int32) (vrdsp : Int32) (vrdwo : Int32) (vrdot : Int32) (p0 : Int32) : Int32 × Int32 × Int32 × Int32 × Int32 × Int32 := if vrdaw = 0 then (bd (f_X0_takeDot vrdac p0) (fun o4 => if o4.1 = 0 then (bd (f_X0_takeSpeaker vrdaw o4.2 vrdsp p0) (fun o6 => if o6.1 = 0 then ((0, o6.2.1, o6.2.2.1, o6.2.2.2, vrdwo, vrdot)) else ((1, o6.2.1, o6.2.2.1, o6.2.2.2, vrdwo, vrdot)))) else ((1, vrdaw, o4.2, vrdsp, vrdwo, vrdot)))) else (if vrdaw = 1 then (bd (f_X0_takeMark vrdaw vrdac p0) (fun o8 => if o8.1 = 0 then (bd (f_X0_takeWord o8.2.1 vrdwo p0) (fun o10 => if o10.1 = 0 then ((0, o10.2.1, o8.2.2, vrdsp, o10.2.2, vrdot)) else ((1, o10.2.1, o8.2.2, vrdsp, o10.2.2, vrdot)))) else ((1, o8.2.1, o8.2.2, vrdsp, vrdwo, vrdot)))) else (if vrdaw = 2 then (bd (f_X0_takeOther vrdaw vrdot p0) (fun o12 => (o12.1, o12.2.1, vrdac, vrdsp, vrdwo, o12.2.2))) else (bd (f_X0_takeWord vrdaw vrdwo p0) (fun o13 => (o13.1, o13.2.1, vrdac, vrdsp, o13.2.2, vrdot)))))
theorem inX0_take_X0 : ∀ w ∈ wsX00, w ∈ wsX0_take := fun w h => List.mem_cons_of_mem _ (List.mem_append_right _ h)
theorem yd_X0_take : yX0_take.cls ≠ "java/lang/invoke/MethodHandle" ∧ yX0_take.cls ≠ "java/lang/invoke/VarHandle" ∧ (parseMethodDescriptor yX0_take.desc).map (fun d => d.parameters.length) = some 1 := by decide +kernel
abbrev rmX0_take : Room := { frames := 3, cells := 0, slots := 0, locals := 63 }
set_option maxHeartbeats 4000000 in
set_option maxRecDepth 100000 in
theorem k_X0_take (l : Launch) (D : va_G) (K : Nat → ClassId) (ar : Nat) (vrdaw : Int32) (vrdac : Int32) (vrdsp : Int32) (vrdwo : Int32) (vrdot : Int32) (p0 : Int32) (out : Int32 × Int32 × Int32 × Int32 × Int32 × Int32) (hf : f_X0_take vrdaw vrdac vrdsp vrdwo vrdot p0 = out) : kI l D K .boolean yX0_take wsX0_take rmX0_take [.ref ar, .int p0] (rdW ar vrdaw vrdac vrdsp vrdwo vrdot) out.1 (rdW ar out.2.1 out.2.2.1 out.2.2.2.1 out.2.2.2.2.1 out.2.2.2.2.2) := by
  refine kI.of (cc := cX0_take) (maxL := 2) (by decide) rfl (Nat.le_of_ble_eq_true rfl) ?_
  intro p e s m args below meth c A H0 Q ls hx hb hml hown hts hK hN hA hP hD hS hl hret
  have hown : s.vm.findClass RX0 = some m.cls := hown
  have hl : lv_has ls 2 [(0, .ref ar), (1, .int p0)] := hl
  generalize hH : H0 = H at hP ⊢
  have hS : va_S A H0 H [] := by rw [← hH]; exact hS
  clear hH
  unfold f_X0_take at hf
  refine lv_aload_n hx hb dX0_take_0 rfl (lv_at hl 0 rfl) ?_
  refine va_get (D := D) (ci := 0) (v := .int vrdaw) (C := RX0) (T := TX0) (N := 5) hx hb hts inX0_take_X0 hown hK hP 0 rfl rfl 0 (by decide) (hts (.fieldLink RX0 11 "WordScales$ActReader" "awaited" "I") (List.mem_of_getElem? (i := 1) rfl)) (fun _ h9 => h9) rfl dX0_take_1 ?_
  refine lv_tab3 (t0 := 32) (t1 := 54) (t2 := 76) (td := 82) hx hb dX0_take_4 (by decide) (by decide) (by decide) (by decide) (fun c1 => ?_) (fun c1 c2 => ?_) (fun c1 c2 c3 => ?_) (fun c1 c2 c3 => ?_)
  · rw [if_pos c1] at hf
    refine lv_aload_n hx hb dX0_take_32 rfl (lv_at hl 0 rfl) ?_
    refine lv_iload_n hx hb dX0_take_33 rfl (lv_at hl 1 rfl) ?_
    obtain ⟨o4, ho4, hf⟩ := bd_el hf
    refine kcw_i (D := D) (va_runV (As := [.int p0]) (rest := []) ⟨hx, hb, hml, hown, hts⟩ ((k_X0_takeDot l D K ar vrdaw vrdac vrdsp vrdwo vrdot p0 o4 ho4) H.size) (cwV 1 hts gX0_take_X0_takeDot rfl rfl rfl ⟨rfl, yd_X0_takeDot⟩ ⟨Nat.le_of_ble_eq_true rfl, Nat.le_of_ble_eq_true rfl⟩) (kPreV (ci := 0) (q0 := 0) hP rfl rfl hP hD hK hN) rfl rfl hl.1 rfl (lv_room (Nat.le_of_ble_eq_true rfl)) dX0_take_34 ⟨Nat.le_of_ble_eq_true rfl, Nat.le_of_ble_eq_true rfl⟩) hD hS hA (fun hzo4 H locs hP hD hS => ?_)
    have hP : va_P D vwCl (rdW ar vrdaw o4.2 vrdsp vrdwo vrdot) H := hP
    have hD : va_D A (rdW ar vrdaw o4.2 vrdsp vrdwo vrdot) := hD
    refine lv_if_ne (tgt := 48) hx hb dX0_take_37 (by decide) (fun c5 => ?_) (fun c5 => ?_)
    · rw [if_neg c5] at hf
      refine lv_iconst (v := 1) hx hb dX0_take_48 (by decide) ?_
      refine lv_goto (tgt := 53) hx hb dX0_take_49 (by decide) ?_
      subst hf
      exact hret rfl rfl rfl hP hD hS dX0_take_53
    · rw [if_pos c5] at hf
      refine lv_aload_n hx hb dX0_take_40 rfl (lv_at hl 0 rfl) ?_
      refine lv_iload_n hx hb dX0_take_41 rfl (lv_at hl 1 rfl) ?_
      obtain ⟨o6, ho6, hf⟩ := bd_el hf
      refine kcw_i (D := D) (va_runV (As := [.int p0]) (rest := []) ⟨hx, hb, hml, hown, hts⟩ ((k_X0_takeSpeaker l D K ar vrdaw o4.2 vrdsp vrdwo vrdot p0 o6 ho6) H.size) (cwV 1 hts gX0_take_X0_takeSpeaker rfl rfl rfl ⟨rfl, yd_X0_takeSpeaker⟩ ⟨Nat.le_of_ble_eq_true rfl, Nat.le_of_ble_eq_true rfl⟩) (kPreV (ci := 0) (q0 := 0) hP rfl rfl hP hD hK hN) rfl rfl hl.1 rfl (lv_room (Nat.le_of_ble_eq_true rfl)) dX0_take_42 ⟨Nat.le_of_ble_eq_true rfl, Nat.le_of_ble_eq_true rfl⟩) hD hS hA (fun hzo6 H locs hP hD hS => ?_)
      have hP : va_P D vwCl (rdW ar o6.2.1 o6.2.2.1 o6.2.2.2 vrdwo vrdot) H := hP
      have hD : va_D A (rdW ar o6.2.1 o6.2.2.1 o6.2.2.2 vrdwo vrdot) := hD
      refine lv_if_eq (tgt := 52) hx hb dX0_take_45 (by decide) (fun c7 => ?_) (fun c7 => ?_)
      · rw [if_pos c7] at hf
        refine lv_iconst (v := 0) hx hb dX0_take_52 (by decide) ?_
        subst hf
        exact hret rfl rfl rfl hP hD hS dX0_take_53
      · rw [if_neg c7] at hf
        refine lv_iconst (v := 1) hx hb dX0_take_48 (by decide) ?_
        refine lv_goto (tgt := 53) hx hb dX0_take_49 (by decide) ?_
        subst hf
        exact hret rfl rfl rfl hP hD hS dX0_take_53
  · rw [if_neg c1, if_pos c2] at hf
    refine lv_aload_n hx hb dX0_take_54 rfl (lv_at hl 0 rfl) ?_
    refine lv_iload_n hx hb dX0_take_55 rfl (lv_at hl 1 rfl) ?_
    obtain ⟨o8, ho8, hf⟩ := bd_el hf
    refine kcw_i (D := D) (va_runV (As := [.int p0]) (rest := []) ⟨hx, hb, hml, hown, hts⟩ ((k_X0_takeMark l D K ar vrdaw vrdac vrdsp vrdwo vrdot p0 o8 ho8) H.size) (cwV 1 hts gX0_take_X0_takeMark rfl rfl rfl ⟨rfl, yd_X0_takeMark⟩ ⟨Nat.le_of_ble_eq_true rfl, Nat.le_of_ble_eq_true rfl⟩) (kPreV (ci := 0) (q0 := 0) hP rfl rfl hP hD hK hN) rfl rfl hl.1 rfl (lv_room (Nat.le_of_ble_eq_true rfl)) dX0_take_56 ⟨Nat.le_of_ble_eq_true rfl, Nat.le_of_ble_eq_true rfl⟩) hD hS hA (fun hzo8 H locs hP hD hS => ?_)
    have hP : va_P D vwCl (rdW ar o8.2.1 o8.2.2 vrdsp vrdwo vrdot) H := hP
    have hD : va_D A (rdW ar o8.2.1 o8.2.2 vrdsp vrdwo vrdot) := hD
    refine lv_if_ne (tgt := 70) hx hb dX0_take_59 (by decide) (fun c9 => ?_) (fun c9 => ?_)
    · rw [if_neg c9] at hf
      refine lv_iconst (v := 1) hx hb dX0_take_70 (by decide) ?_
      refine lv_goto (tgt := 75) hx hb dX0_take_71 (by decide) ?_
      subst hf
      exact hret rfl rfl rfl hP hD hS dX0_take_75
    · rw [if_pos c9] at hf
      refine lv_aload_n hx hb dX0_take_62 rfl (lv_at hl 0 rfl) ?_
      refine lv_iload_n hx hb dX0_take_63 rfl (lv_at hl 1 rfl) ?_
      obtain ⟨o10, ho10, hf⟩ := bd_el hf
      refine kcw_i (D := D) (va_runV (As := [.int p0]) (rest := []) ⟨hx, hb, hml, hown, hts⟩ ((k_X0_takeWord l D K ar o8.2.1 o8.2.2 vrdsp vrdwo vrdot p0 o10 ho10) H.size) (cwV 1 hts gX0_take_X0_takeWord rfl rfl rfl ⟨rfl, yd_X0_takeWord⟩ ⟨Nat.le_of_ble_eq_true rfl, Nat.le_of_ble_eq_true rfl⟩) (kPreV (ci := 0) (q0 := 0) hP rfl rfl hP hD hK hN) rfl rfl hl.1 rfl (lv_room (Nat.le_of_ble_eq_true rfl)) dX0_take_64 ⟨Nat.le_of_ble_eq_true rfl, Nat.le_of_ble_eq_true rfl⟩) hD hS hA (fun hzo10 H locs hP hD hS => ?_)
      have hP : va_P D vwCl (rdW ar o10.2.1 o8.2.2 vrdsp o10.2.2 vrdot) H := hP
      have hD : va_D A (rdW ar o10.2.1 o8.2.2 vrdsp o10.2.2 vrdot) := hD
      refine lv_if_eq (tgt := 74) hx hb dX0_take_67 (by decide) (fun c11 => ?_) (fun c11 => ?_)
      · rw [if_pos c11] at hf
        refine lv_iconst (v := 0) hx hb dX0_take_74 (by decide) ?_
        subst hf
        exact hret rfl rfl rfl hP hD hS dX0_take_75
      · rw [if_neg c11] at hf
        refine lv_iconst (v := 1) hx hb dX0_take_70 (by decide) ?_
        refine lv_goto (tgt := 75) hx hb dX0_take_71 (by decide) ?_
        subst hf
        exact hret rfl rfl rfl hP hD hS dX0_take_75
  · rw [if_neg c1, if_neg c2, if_pos c3] at hf
    refine lv_aload_n hx hb dX0_take_76 rfl (lv_at hl 0 rfl) ?_
    refine lv_iload_n hx hb dX0_take_77 rfl (lv_at hl 1 rfl) ?_
    obtain ⟨o12, ho12, hf⟩ := bd_el hf
    refine kcw_i (D := D) (va_runV (As := [.int p0]) (rest := []) ⟨hx, hb, hml, hown, hts⟩ ((k_X0_takeOther l D K ar vrdaw vrdac vrdsp vrdwo vrdot p0 o12 ho12) H.size) (cwV 1 hts gX0_take_X0_takeOther rfl rfl rfl ⟨rfl, yd_X0_takeOther⟩ ⟨Nat.le_of_ble_eq_true rfl, Nat.le_of_ble_eq_true rfl⟩) (kPreV (ci := 0) (q0 := 0) hP rfl rfl hP hD hK hN) rfl rfl hl.1 rfl (lv_room (Nat.le_of_ble_eq_true rfl)) dX0_take_78 ⟨Nat.le_of_ble_eq_true rfl, Nat.le_of_ble_eq_true rfl⟩) hD hS hA (fun hzo12 H locs hP hD hS => ?_)
    have hP : va_P D vwCl (rdW ar o12.2.1 vrdac vrdsp vrdwo o12.2.2) H := hP
    have hD : va_D A (rdW ar o12.2.1 vrdac vrdsp vrdwo o12.2.2) := hD
    subst hf
    exact hret rfl rfl hzo12 hP hD hS dX0_take_81
  · rw [if_neg c1, if_neg c2, if_neg c3] at hf
    refine lv_aload_n hx hb dX0_take_82 rfl (lv_at hl 0 rfl) ?_
    refine lv_iload_n hx hb dX0_take_83 rfl (lv_at hl 1 rfl) ?_
    obtain ⟨o13, ho13, hf⟩ := bd_el hf
    refine kcw_i (D := D) (va_runV (As := [.int p0]) (rest := []) ⟨hx, hb, hml, hown, hts⟩ ((k_X0_takeWord l D K ar vrdaw vrdac vrdsp vrdwo vrdot p0 o13 ho13) H.size) (cwV 1 hts gX0_take_X0_takeWord rfl rfl rfl ⟨rfl, yd_X0_takeWord⟩ ⟨Nat.le_of_ble_eq_true rfl, Nat.le_of_ble_eq_true rfl⟩) (kPreV (ci := 0) (q0 := 0) hP rfl rfl hP hD hK hN) rfl rfl hl.1 rfl (lv_room (Nat.le_of_ble_eq_true rfl)) dX0_take_84 ⟨Nat.le_of_ble_eq_true rfl, Nat.le_of_ble_eq_true rfl⟩) hD hS hA (fun hzo13 H locs hP hD hS => ?_)
    have hP : va_P D vwCl (rdW ar o13.2.1 vrdac vrdsp o13.2.2 vrdot) H := hP
    have hD : va_D A (rdW ar o13.2.1 vrdac vrdsp o13.2.2 vrdot) := hD
    subst hf
    exact hret rfl rfl hzo13 hP hD hS dX0_take_87
