def f_X2_init : Int32 × Int32 := (0, 0)
theorem inX2_init_X2 : ∀ w ∈ wsX20, w ∈ wsX2_init := fun w h => List.mem_cons_of_mem _ (List.mem_append_right _ h)
theorem yd_X2_init : yX2_init.cls ≠ "java/lang/invoke/MethodHandle" ∧ yX2_init.cls ≠ "java/lang/invoke/VarHandle" ∧ (parseMethodDescriptor yX2_init.desc).map (fun d => d.parameters.length) = some 0 := by decide +kernel
abbrev rmX2_init : Room := { frames := 1, cells := 0, slots := 0, locals := 20 }
set_option maxHeartbeats 4000000 in
set_option maxRecDepth 100000 in
theorem k_X2_init (l : Launch) (D : va_G) (K : Nat → ClassId) (h0 : Nat) (out : Int32 × Int32) (hf : f_X2_init = out) : kN l D K yX2_init wsX2_init rmX2_init [.ref h0] ([(h0, .inr (2, [.int 0, .int 0]))] : va_W) (fun (u : Unit) => True) (fun u => (rwW h0 out.1 out.2)) 0 0 := by
  refine kN.of (cc := cX2_init) (maxL := 1) (by decide) rfl (Nat.le_of_ble_eq_true rfl) ?_
  intro p e s m args below meth c A H0 Q ls hx hb hml hown hnm hts hK hN hA hP hD hS hl hret
  have hown : s.vm.findClass RX2 = some m.cls := hown
  have hnm : meth.name = "<init>" := hnm
  have hl : lv_has ls 1 [(0, .ref h0)] := hl
  generalize hH : H0 = H at hP ⊢
  have hS : va_S A H0 H [] := by rw [← hH]; exact hS
  clear hH
  unfold f_X2_init at hf
  refine lv_aload_n hx hb dX2_init_0 rfl (lv_at hl 0 rfl) ?_
  refine W.objInit hx hb hown (hts (.methodLink RX2 3 objectInit) (List.mem_of_getElem? (i := 1) rfl)) (hts (.instanceMethod objectInit) (List.mem_of_getElem? (i := 2) rfl)) (hts (.code objectInit ⟨#[0xb1]⟩ 1 none) (List.mem_of_getElem? (i := 3) rfl)) rfl (hl.1.trans hml.symm) rfl dX2_init_1 (Nat.le_of_ble_eq_true rfl) (Nat.le_of_ble_eq_true rfl) ?_
  refine W.eq (g2 := F0 m 4 ls []) rfl ?_
  refine lv_aload_n hx hb dX2_init_4 rfl (lv_at hl 0 rfl) ?_
  refine lv_iconst (v := 0) hx hb dX2_init_5 (by decide) ?_
  refine va_put (D := D) (ci := 2) (v := .int 0) (ty := tyX2 0) (C := RX2) (T := TX2) (N := 2) hx hb hts inX2_init_X2 tyX2 tyX2_ok nmX2 hown hK hP hD hS 0 rfl rfl 0 (by decide) (hts (.fieldLink RX2 11 "WordScales$Row" "stage" "I") (List.mem_of_getElem? (i := 4) rfl)) (fun _ h9 => h9) rfl (tyX2_ok 0 (by decide)) rfl rfl (Nat.le_of_ble_eq_true rfl) dX2_init_6 (fun H locs hP hD hS => ?_)
  have hP : va_P D vwCl ([(h0, .inr (2, [.int 0, .int 0]))] : va_W) H := hP
  have hD : va_D A ([(h0, .inr (2, [.int 0, .int 0]))] : va_W) := hD
  refine lv_aload_n hx hb dX2_init_9 rfl (lv_at hl 0 rfl) ?_
  refine lv_iconst (v := 0) hx hb dX2_init_10 (by decide) ?_
  refine va_put (D := D) (ci := 2) (v := .int 0) (ty := tyX2 1) (C := RX2) (T := TX2) (N := 2) hx hb hts inX2_init_X2 tyX2 tyX2_ok nmX2 hown hK hP hD hS 0 rfl rfl 1 (by decide) (hts (.fieldLink RX2 15 "WordScales$Row" "length" "I") (List.mem_of_getElem? (i := 5) rfl)) (fun _ h9 => h9) rfl (tyX2_ok 1 (by decide)) rfl rfl (Nat.le_of_ble_eq_true rfl) dX2_init_11 (fun H locs hP hD hS => ?_)
  have hP : va_P D vwCl ([(h0, .inr (2, [.int 0, .int 0]))] : va_W) H := hP
  have hD : va_D A ([(h0, .inr (2, [.int 0, .int 0]))] : va_W) := hD
  subst hf
  exact hret () trivial rfl hP hD hS dX2_init_14
def f_X0_init : Int32 × Int32 × Int32 × Int32 × Int32 := (0, 2, 0, 0, 0)
theorem inX0_init_X0 : ∀ w ∈ wsX00, w ∈ wsX0_init := fun w h => List.mem_cons_of_mem _ (List.mem_append_right _ h)
theorem yd_X0_init : yX0_init.cls ≠ "java/lang/invoke/MethodHandle" ∧ yX0_init.cls ≠ "java/lang/invoke/VarHandle" ∧ (parseMethodDescriptor yX0_init.desc).map (fun d => d.parameters.length) = some 0 := by decide +kernel
abbrev rmX0_init : Room := { frames := 1, cells := 0, slots := 0, locals := 20 }
set_option maxHeartbeats 4000000 in
set_option maxRecDepth 100000 in
theorem k_X0_init (l : Launch) (D : va_G) (K : Nat → ClassId) (h0 : Nat) (out : Int32 × Int32 × Int32 × Int32 × Int32) (hf : f_X0_init = out) : kN l D K yX0_init wsX0_init rmX0_init [.ref h0] ([(h0, .inr (0, [.int 0, .int 0, .int 0, .int 0, .int 0]))] : va_W) (fun (u : Unit) => True) (fun u => (rdW h0 out.1 out.2.1 out.2.2.1 out.2.2.2.1 out.2.2.2.2)) 0 0 := by
  refine kN.of (cc := cX0_init) (maxL := 1) (by decide) rfl (Nat.le_of_ble_eq_true rfl) ?_
  intro p e s m args below meth c A H0 Q ls hx hb hml hown hnm hts hK hN hA hP hD hS hl hret
  have hown : s.vm.findClass RX0 = some m.cls := hown
  have hnm : meth.name = "<init>" := hnm
  have hl : lv_has ls 1 [(0, .ref h0)] := hl
  generalize hH : H0 = H at hP ⊢
  have hS : va_S A H0 H [] := by rw [← hH]; exact hS
  clear hH
  unfold f_X0_init at hf
  refine lv_aload_n hx hb dX0_init_0 rfl (lv_at hl 0 rfl) ?_
  refine W.objInit hx hb hown (hts (.methodLink RX0 3 objectInit) (List.mem_of_getElem? (i := 1) rfl)) (hts (.instanceMethod objectInit) (List.mem_of_getElem? (i := 2) rfl)) (hts (.code objectInit ⟨#[0xb1]⟩ 1 none) (List.mem_of_getElem? (i := 3) rfl)) rfl (hl.1.trans hml.symm) rfl dX0_init_1 (Nat.le_of_ble_eq_true rfl) (Nat.le_of_ble_eq_true rfl) ?_
  refine W.eq (g2 := F0 m 4 ls []) rfl ?_
  refine lv_aload_n hx hb dX0_init_4 rfl (lv_at hl 0 rfl) ?_
  refine lv_iconst (v := 0) hx hb dX0_init_5 (by decide) ?_
  refine va_put (D := D) (ci := 0) (v := .int 0) (ty := tyX0 0) (C := RX0) (T := TX0) (N := 5) hx hb hts inX0_init_X0 tyX0 tyX0_ok nmX0 hown hK hP hD hS 0 rfl rfl 0 (by decide) (hts (.fieldLink RX0 11 "WordScales$ActReader" "awaited" "I") (List.mem_of_getElem? (i := 4) rfl)) (fun _ h9 => h9) rfl (tyX0_ok 0 (by decide)) rfl rfl (Nat.le_of_ble_eq_true rfl) dX0_init_6 (fun H locs hP hD hS => ?_)
  have hP : va_P D vwCl ([(h0, .inr (0, [.int 0, .int 0, .int 0, .int 0, .int 0]))] : va_W) H := hP
  have hD : va_D A ([(h0, .inr (0, [.int 0, .int 0, .int 0, .int 0, .int 0]))] : va_W) := hD
  refine lv_aload_n hx hb dX0_init_9 rfl (lv_at hl 0 rfl) ?_
  refine lv_iconst (v := 2) hx hb dX0_init_10 (by decide) ?_
  refine va_put (D := D) (ci := 0) (v := .int 2) (ty := tyX0 1) (C := RX0) (T := TX0) (N := 5) hx hb hts inX0_init_X0 tyX0 tyX0_ok nmX0 hown hK hP hD hS 0 rfl rfl 1 (by decide) (hts (.fieldLink RX0 15 "WordScales$ActReader" "act" "I") (List.mem_of_getElem? (i := 5) rfl)) (fun _ h9 => h9) rfl (tyX0_ok 1 (by decide)) rfl rfl (Nat.le_of_ble_eq_true rfl) dX0_init_11 (fun H locs hP hD hS => ?_)
  have hP : va_P D vwCl ([(h0, .inr (0, [.int 0, .int 2, .int 0, .int 0, .int 0]))] : va_W) H := hP
  have hD : va_D A ([(h0, .inr (0, [.int 0, .int 2, .int 0, .int 0, .int 0]))] : va_W) := hD
  refine lv_aload_n hx hb dX0_init_14 rfl (lv_at hl 0 rfl) ?_
  refine lv_iconst (v := 0) hx hb dX0_init_15 (by decide) ?_
  refine va_put (D := D) (ci := 0) (v := .int 0) (ty := tyX0 2) (C := RX0) (T := TX0) (N := 5) hx hb hts inX0_init_X0 tyX0 tyX0_ok nmX0 hown hK hP hD hS 0 rfl rfl 2 (by decide) (hts (.fieldLink RX0 18 "WordScales$ActReader" "speaker" "I") (List.mem_of_getElem? (i := 6) rfl)) (fun _ h9 => h9) rfl (tyX0_ok 2 (by decide)) rfl rfl (Nat.le_of_ble_eq_true rfl) dX0_init_16 (fun H locs hP hD hS => ?_)
  have hP : va_P D vwCl ([(h0, .inr (0, [.int 0, .int 2, .int 0, .int 0, .int 0]))] : va_W) H := hP
  have hD : va_D A ([(h0, .inr (0, [.int 0, .int 2, .int 0, .int 0, .int 0]))] : va_W) := hD
  refine lv_aload_n hx hb dX0_init_19 rfl (lv_at hl 0 rfl) ?_
  refine lv_iconst (v := 0) hx hb dX0_init_20 (by decide) ?_
  refine va_put (D := D) (ci := 0) (v := .int 0) (ty := tyX0 3) (C := RX0) (T := TX0) (N := 5) hx hb hts inX0_init_X0 tyX0 tyX0_ok nmX0 hown hK hP hD hS 0 rfl rfl 3 (by decide) (hts (.fieldLink RX0 21 "WordScales$ActReader" "word" "I") (List.mem_of_getElem? (i := 7) rfl)) (fun _ h9 => h9) rfl (tyX0_ok 3 (by decide)) rfl rfl (Nat.le_of_ble_eq_true rfl) dX0_init_21 (fun H locs hP hD hS => ?_)
  have hP : va_P D vwCl ([(h0, .inr (0, [.int 0, .int 2, .int 0, .int 0, .int 0]))] : va_W) H := hP
  have hD : va_D A ([(h0, .inr (0, [.int 0, .int 2, .int 0, .int 0, .int 0]))] : va_W) := hD
  refine lv_aload_n hx hb dX0_init_24 rfl (lv_at hl 0 rfl) ?_
  refine lv_iconst (v := 0) hx hb dX0_init_25 (by decide) ?_
  refine va_put (D := D) (ci := 0) (v := .int 0) (ty := tyX0 4) (C := RX0) (T := TX0) (N := 5) hx hb hts inX0_init_X0 tyX0 tyX0_ok nmX0 hown hK hP hD hS 0 rfl rfl 4 (by decide) (hts (.fieldLink RX0 24 "WordScales$ActReader" "other" "I") (List.mem_of_getElem? (i := 8) rfl)) (fun _ h9 => h9) rfl (tyX0_ok 4 (by decide)) rfl rfl (Nat.le_of_ble_eq_true rfl) dX0_init_26 (fun H locs hP hD hS => ?_)
  have hP : va_P D vwCl ([(h0, .inr (0, [.int 0, .int 2, .int 0, .int 0, .int 0]))] : va_W) H := hP
  have hD : va_D A ([(h0, .inr (0, [.int 0, .int 2, .int 0, .int 0, .int 0]))] : va_W) := hD
  subst hf
  exact hret () trivial rfl hP hD hS dX0_init_29
def s_X3_init_124 (x : Int32 × (Nat → Int32)) : Option ((Int32 × (Nat → Int32)) ⊕ (Int32 × (Nat → Int32))) := if 4 ≤ x.1 then (some (.inr (x.1, x.2))) else (chk x.1 4 (some (.inl ((x.1 + 1), (upd x.2 (x.1).toNatClampNeg 50)))))
def s_X3_init_86 (x : Int32 × (Nat → Int32) × (Nat → Int32) × (Nat → Int32)) : Option ((Int32 × (Nat → Int32) × (Nat → Int32) × (Nat → Int32)) ⊕ (Int32 × (Nat → Int32) × (Nat → Int32) × (Nat → Int32))) := if 12 ≤ x.1 then (some (.inr (x.1, x.2.1, x.2.2.1, x.2.2.2))) else (chk x.1 12 (some (.inl ((x.1 + 1), (upd x.2.1 (x.1).toNatClampNeg 10), (upd x.2.2.1 (x.1).toNatClampNeg 0), (upd x.2.2.2 (x.1).toNatClampNeg (1 <<< (x.1 &&& 31)))))))
def f_X3_init : Option ((Nat → Int32) × (Nat → Int32) × (Nat → Int32) × (Nat → Int32) × (Nat → Int32) × (Nat → Int32) × Int32 × (Nat → Int32) × (Nat → Int32) × (Nat → Int32) × Int32) := ob (wh (s_X3_init_86) 5000 (0, (fun _ => 0), (fun _ => 0), (fun _ => 0))) (fun r10 => ob (wh (s_X3_init_124) 5000 (0, (fun _ => 0))) (fun r11 => some (r10.2.1, r10.2.2.1, r10.2.2.2, r11.2, (fun _ => 0), (fun _ => 0), 0, (fun _ => 0), (fun _ => 0), (fun _ => 0), 0)))
theorem inX3_init_X3 : ∀ w ∈ wsX30, w ∈ wsX3_init := fun w h => List.mem_cons_of_mem _ (List.mem_append_right _ h)
theorem yd_X3_init : yX3_init.cls ≠ "java/lang/invoke/MethodHandle" ∧ yX3_init.cls ≠ "java/lang/invoke/VarHandle" ∧ (parseMethodDescriptor yX3_init.desc).map (fun d => d.parameters.length) = some 0 := by decide +kernel
abbrev rmX3_init : Room := { frames := 1, cells := 9, slots := 70, locals := 20 }
set_option maxHeartbeats 4000000 in
set_option maxRecDepth 100000 in
theorem k_X3_init (l : Launch) (D : va_G) (K : Nat → ClassId) (h0 : Nat) (out : (Nat → Int32) × (Nat → Int32) × (Nat → Int32) × (Nat → Int32) × (Nat → Int32) × (Nat → Int32) × Int32 × (Nat → Int32) × (Nat → Int32) × (Nat → Int32) × Int32) (hf : f_X3_init = some out) : kN l D K yX3_init wsX3_init rmX3_init [.ref h0] ([(h0, .inr (3, [.null, .null, .null, .null, .null, .null, .int 0, .null, .null, .null, .int 0]))] : va_W) (fun (u : Nat → Nat) => u 0 = h0) (fun u => (shW K u out.1 out.2.1 out.2.2.1 out.2.2.2.1 out.2.2.2.2.1 out.2.2.2.2.2.1 out.2.2.2.2.2.2.1 out.2.2.2.2.2.2.2.1 out.2.2.2.2.2.2.2.2.1 out.2.2.2.2.2.2.2.2.2.1 out.2.2.2.2.2.2.2.2.2.2)) 9 70 := by
  refine kN.of (cc := cX3_init) (maxL := 2) (by decide) rfl (Nat.le_of_ble_eq_true rfl) ?_
  intro p e s m args below meth c A H0 Q ls hx hb hml hown hnm hts hK hN hA hP hD hS hl hret
  have hown : s.vm.findClass RX3 = some m.cls := hown
  have hnm : meth.name = "<init>" := hnm
  have hl : lv_has ls 2 [(0, .ref h0)] := hl
  generalize hH : H0 = H at hP ⊢
  have hS : va_S A H0 H [] := by rw [← hH]; exact hS
  clear hH
  unfold f_X3_init at hf
  refine lv_aload_n hx hb dX3_init_0 rfl (lv_at hl 0 rfl) ?_
  refine W.objInit hx hb hown (hts (.methodLink RX3 3 objectInit) (List.mem_of_getElem? (i := 1) rfl)) (hts (.instanceMethod objectInit) (List.mem_of_getElem? (i := 2) rfl)) (hts (.code objectInit ⟨#[0xb1]⟩ 1 none) (List.mem_of_getElem? (i := 3) rfl)) rfl (hl.1.trans hml.symm) rfl dX3_init_1 (Nat.le_of_ble_eq_true rfl) (Nat.le_of_ble_eq_true rfl) ?_
  refine W.eq (g2 := F0 m 4 ls []) rfl ?_
  refine lv_aload_n hx hb dX3_init_4 rfl (lv_at hl 0 rfl) ?_
  refine lv_bipush (v := 12) hx hb dX3_init_5 (by decide) ?_
  refine zn_i hx hb (hts (.arrayClass .int) (List.mem_of_getElem? (i := 4) rfl)) hK hP hD hS hA (N := 12) (by decide) rfl (Nat.le_of_ble_eq_true rfl) (Nat.le_of_ble_eq_true rfl) (Nat.le_of_ble_eq_true rfl) dX3_init_7 (fun q1 H hP hD hS => ?_)
  have hP : va_P D vwCl ([(h0, .inr (3, [.null, .null, .null, .null, .null, .null, .int 0, .null, .null, .null, .int 0])), (q1, .inl (K 0, 12, .inl (fun _ => 0)))] : va_W) H := hP
  have hD : va_D A ([(h0, .inr (3, [.null, .null, .null, .null, .null, .null, .int 0, .null, .null, .null, .int 0])), (q1, .inl (K 0, 12, .inl (fun _ => 0)))] : va_W) := hD
  refine W.widen (k := 1) (n := 12) (Nat.le_of_ble_eq_true rfl) (Nat.le_of_ble_eq_true rfl) ?_
  refine va_putF (D := D) (ci := 3) (v := .ref q1) (ty := tyX3 0) (C := RX3) (T := TX3) (N := 11) hx hb hts inX3_init_X3 tyX3 tyX3_ok nmX3 hown hK hP hD hS 0 rfl rfl 0 (by decide) (hts (.fieldLink RX3 9 "WordScales$Shop" "weights" "[I") (List.mem_of_getElem? (i := 5) rfl)) (fun _ h9 => h9) rfl hnm rfl (tyX3_ok 0 (by decide)) rfl rfl (Nat.le_of_ble_eq_true rfl) dX3_init_9 (fun H locs hP hD hS => ?_)
  have hP : va_P D vwCl ([(h0, .inr (3, [.ref q1, .null, .null, .null, .null, .null, .int 0, .null, .null, .null, .int 0])), (q1, .inl (K 0, 12, .inl (fun _ => 0)))] : va_W) H := hP
  have hD : va_D A ([(h0, .inr (3, [.ref q1, .null, .null, .null, .null, .null, .int 0, .null, .null, .null, .int 0])), (q1, .inl (K 0, 12, .inl (fun _ => 0)))] : va_W) := hD
  refine lv_aload_n hx hb dX3_init_12 rfl (lv_at hl 0 rfl) ?_
  refine lv_bipush (v := 12) hx hb dX3_init_13 (by decide) ?_
  refine zn_i hx hb (hts (.arrayClass .int) (List.mem_of_getElem? (i := 4) rfl)) hK hP hD hS hA (N := 12) (by decide) rfl (Nat.le_of_ble_eq_true rfl) (Nat.le_of_ble_eq_true rfl) (Nat.le_of_ble_eq_true rfl) dX3_init_15 (fun q2 H hP hD hS => ?_)
  have hP : va_P D vwCl ([(h0, .inr (3, [.ref q1, .null, .null, .null, .null, .null, .int 0, .null, .null, .null, .int 0])), (q1, .inl (K 0, 12, .inl (fun _ => 0))), (q2, .inl (K 0, 12, .inl (fun _ => 0)))] : va_W) H := hP
  have hD : va_D A ([(h0, .inr (3, [.ref q1, .null, .null, .null, .null, .null, .int 0, .null, .null, .null, .int 0])), (q1, .inl (K 0, 12, .inl (fun _ => 0))), (q2, .inl (K 0, 12, .inl (fun _ => 0)))] : va_W) := hD
  refine W.widen (k := 2) (n := 24) (Nat.le_of_ble_eq_true rfl) (Nat.le_of_ble_eq_true rfl) ?_
  refine va_putF (D := D) (ci := 3) (v := .ref q2) (ty := tyX3 1) (C := RX3) (T := TX3) (N := 11) hx hb hts inX3_init_X3 tyX3 tyX3_ok nmX3 hown hK hP hD hS 0 rfl rfl 1 (by decide) (hts (.fieldLink RX3 15 "WordScales$Shop" "kinds" "[I") (List.mem_of_getElem? (i := 6) rfl)) (fun _ h9 => h9) rfl hnm rfl (tyX3_ok 1 (by decide)) rfl rfl (Nat.le_of_ble_eq_true rfl) dX3_init_17 (fun H locs hP hD hS => ?_)
  have hP : va_P D vwCl ([(h0, .inr (3, [.ref q1, .ref q2, .null, .null, .null, .null, .int 0, .null, .null, .null, .int 0])), (q1, .inl (K 0, 12, .inl (fun _ => 0))), (q2, .inl (K 0, 12, .inl (fun _ => 0)))] : va_W) H := hP
  have hD : va_D A ([(h0, .inr (3, [.ref q1, .ref q2, .null, .null, .null, .null, .int 0, .null, .null, .null, .int 0])), (q1, .inl (K 0, 12, .inl (fun _ => 0))), (q2, .inl (K 0, 12, .inl (fun _ => 0)))] : va_W) := hD
  refine lv_aload_n hx hb dX3_init_20 rfl (lv_at hl 0 rfl) ?_
  refine lv_bipush (v := 12) hx hb dX3_init_21 (by decide) ?_
  refine zn_i hx hb (hts (.arrayClass .int) (List.mem_of_getElem? (i := 4) rfl)) hK hP hD hS hA (N := 12) (by decide) rfl (Nat.le_of_ble_eq_true rfl) (Nat.le_of_ble_eq_true rfl) (Nat.le_of_ble_eq_true rfl) dX3_init_23 (fun q3 H hP hD hS => ?_)
  have hP : va_P D vwCl ([(h0, .inr (3, [.ref q1, .ref q2, .null, .null, .null, .null, .int 0, .null, .null, .null, .int 0])), (q1, .inl (K 0, 12, .inl (fun _ => 0))), (q2, .inl (K 0, 12, .inl (fun _ => 0))), (q3, .inl (K 0, 12, .inl (fun _ => 0)))] : va_W) H := hP
  have hD : va_D A ([(h0, .inr (3, [.ref q1, .ref q2, .null, .null, .null, .null, .int 0, .null, .null, .null, .int 0])), (q1, .inl (K 0, 12, .inl (fun _ => 0))), (q2, .inl (K 0, 12, .inl (fun _ => 0))), (q3, .inl (K 0, 12, .inl (fun _ => 0)))] : va_W) := hD
  refine W.widen (k := 3) (n := 36) (Nat.le_of_ble_eq_true rfl) (Nat.le_of_ble_eq_true rfl) ?_
  refine va_putF (D := D) (ci := 3) (v := .ref q3) (ty := tyX3 2) (C := RX3) (T := TX3) (N := 11) hx hb hts inX3_init_X3 tyX3 tyX3_ok nmX3 hown hK hP hD hS 0 rfl rfl 2 (by decide) (hts (.fieldLink RX3 18 "WordScales$Shop" "rhymes" "[I") (List.mem_of_getElem? (i := 7) rfl)) (fun _ h9 => h9) rfl hnm rfl (tyX3_ok 2 (by decide)) rfl rfl (Nat.le_of_ble_eq_true rfl) dX3_init_25 (fun H locs hP hD hS => ?_)
  have hP : va_P D vwCl ([(h0, .inr (3, [.ref q1, .ref q2, .ref q3, .null, .null, .null, .int 0, .null, .null, .null, .int 0])), (q1, .inl (K 0, 12, .inl (fun _ => 0))), (q2, .inl (K 0, 12, .inl (fun _ => 0))), (q3, .inl (K 0, 12, .inl (fun _ => 0)))] : va_W) H := hP
  have hD : va_D A ([(h0, .inr (3, [.ref q1, .ref q2, .ref q3, .null, .null, .null, .int 0, .null, .null, .null, .int 0])), (q1, .inl (K 0, 12, .inl (fun _ => 0))), (q2, .inl (K 0, 12, .inl (fun _ => 0))), (q3, .inl (K 0, 12, .inl (fun _ => 0)))] : va_W) := hD
  refine lv_aload_n hx hb dX3_init_28 rfl (lv_at hl 0 rfl) ?_
  refine lv_iconst (v := 4) hx hb dX3_init_29 (by decide) ?_
  refine zn_i hx hb (hts (.arrayClass .int) (List.mem_of_getElem? (i := 4) rfl)) hK hP hD hS hA (N := 4) (by decide) rfl (Nat.le_of_ble_eq_true rfl) (Nat.le_of_ble_eq_true rfl) (Nat.le_of_ble_eq_true rfl) dX3_init_30 (fun q4 H hP hD hS => ?_)
  have hP : va_P D vwCl ([(h0, .inr (3, [.ref q1, .ref q2, .ref q3, .null, .null, .null, .int 0, .null, .null, .null, .int 0])), (q1, .inl (K 0, 12, .inl (fun _ => 0))), (q2, .inl (K 0, 12, .inl (fun _ => 0))), (q3, .inl (K 0, 12, .inl (fun _ => 0))), (q4, .inl (K 0, 4, .inl (fun _ => 0)))] : va_W) H := hP
  have hD : va_D A ([(h0, .inr (3, [.ref q1, .ref q2, .ref q3, .null, .null, .null, .int 0, .null, .null, .null, .int 0])), (q1, .inl (K 0, 12, .inl (fun _ => 0))), (q2, .inl (K 0, 12, .inl (fun _ => 0))), (q3, .inl (K 0, 12, .inl (fun _ => 0))), (q4, .inl (K 0, 4, .inl (fun _ => 0)))] : va_W) := hD
  refine W.widen (k := 4) (n := 40) (Nat.le_of_ble_eq_true rfl) (Nat.le_of_ble_eq_true rfl) ?_
  refine va_putF (D := D) (ci := 3) (v := .ref q4) (ty := tyX3 3) (C := RX3) (T := TX3) (N := 11) hx hb hts inX3_init_X3 tyX3 tyX3_ok nmX3 hown hK hP hD hS 0 rfl rfl 3 (by decide) (hts (.fieldLink RX3 21 "WordScales$Shop" "purses" "[I") (List.mem_of_getElem? (i := 8) rfl)) (fun _ h9 => h9) rfl hnm rfl (tyX3_ok 3 (by decide)) rfl rfl (Nat.le_of_ble_eq_true rfl) dX3_init_32 (fun H locs hP hD hS => ?_)
  have hP : va_P D vwCl ([(h0, .inr (3, [.ref q1, .ref q2, .ref q3, .ref q4, .null, .null, .int 0, .null, .null, .null, .int 0])), (q1, .inl (K 0, 12, .inl (fun _ => 0))), (q2, .inl (K 0, 12, .inl (fun _ => 0))), (q3, .inl (K 0, 12, .inl (fun _ => 0))), (q4, .inl (K 0, 4, .inl (fun _ => 0)))] : va_W) H := hP
  have hD : va_D A ([(h0, .inr (3, [.ref q1, .ref q2, .ref q3, .ref q4, .null, .null, .int 0, .null, .null, .null, .int 0])), (q1, .inl (K 0, 12, .inl (fun _ => 0))), (q2, .inl (K 0, 12, .inl (fun _ => 0))), (q3, .inl (K 0, 12, .inl (fun _ => 0))), (q4, .inl (K 0, 4, .inl (fun _ => 0)))] : va_W) := hD
  refine lv_aload_n hx hb dX3_init_35 rfl (lv_at hl 0 rfl) ?_
  refine lv_iconst (v := 4) hx hb dX3_init_36 (by decide) ?_
  refine zn_i hx hb (hts (.arrayClass .int) (List.mem_of_getElem? (i := 4) rfl)) hK hP hD hS hA (N := 4) (by decide) rfl (Nat.le_of_ble_eq_true rfl) (Nat.le_of_ble_eq_true rfl) (Nat.le_of_ble_eq_true rfl) dX3_init_37 (fun q5 H hP hD hS => ?_)
  have hP : va_P D vwCl ([(h0, .inr (3, [.ref q1, .ref q2, .ref q3, .ref q4, .null, .null, .int 0, .null, .null, .null, .int 0])), (q1, .inl (K 0, 12, .inl (fun _ => 0))), (q2, .inl (K 0, 12, .inl (fun _ => 0))), (q3, .inl (K 0, 12, .inl (fun _ => 0))), (q4, .inl (K 0, 4, .inl (fun _ => 0))), (q5, .inl (K 0, 4, .inl (fun _ => 0)))] : va_W) H := hP
  have hD : va_D A ([(h0, .inr (3, [.ref q1, .ref q2, .ref q3, .ref q4, .null, .null, .int 0, .null, .null, .null, .int 0])), (q1, .inl (K 0, 12, .inl (fun _ => 0))), (q2, .inl (K 0, 12, .inl (fun _ => 0))), (q3, .inl (K 0, 12, .inl (fun _ => 0))), (q4, .inl (K 0, 4, .inl (fun _ => 0))), (q5, .inl (K 0, 4, .inl (fun _ => 0)))] : va_W) := hD
  refine W.widen (k := 5) (n := 44) (Nat.le_of_ble_eq_true rfl) (Nat.le_of_ble_eq_true rfl) ?_
  refine va_putF (D := D) (ci := 3) (v := .ref q5) (ty := tyX3 4) (C := RX3) (T := TX3) (N := 11) hx hb hts inX3_init_X3 tyX3 tyX3_ok nmX3 hown hK hP hD hS 0 rfl rfl 4 (by decide) (hts (.fieldLink RX3 24 "WordScales$Shop" "belongings" "[I") (List.mem_of_getElem? (i := 9) rfl)) (fun _ h9 => h9) rfl hnm rfl (tyX3_ok 4 (by decide)) rfl rfl (Nat.le_of_ble_eq_true rfl) dX3_init_39 (fun H locs hP hD hS => ?_)
  have hP : va_P D vwCl ([(h0, .inr (3, [.ref q1, .ref q2, .ref q3, .ref q4, .ref q5, .null, .int 0, .null, .null, .null, .int 0])), (q1, .inl (K 0, 12, .inl (fun _ => 0))), (q2, .inl (K 0, 12, .inl (fun _ => 0))), (q3, .inl (K 0, 12, .inl (fun _ => 0))), (q4, .inl (K 0, 4, .inl (fun _ => 0))), (q5, .inl (K 0, 4, .inl (fun _ => 0)))] : va_W) H := hP
  have hD : va_D A ([(h0, .inr (3, [.ref q1, .ref q2, .ref q3, .ref q4, .ref q5, .null, .int 0, .null, .null, .null, .int 0])), (q1, .inl (K 0, 12, .inl (fun _ => 0))), (q2, .inl (K 0, 12, .inl (fun _ => 0))), (q3, .inl (K 0, 12, .inl (fun _ => 0))), (q4, .inl (K 0, 4, .inl (fun _ => 0))), (q5, .inl (K 0, 4, .inl (fun _ => 0)))] : va_W) := hD
  refine lv_aload_n hx hb dX3_init_42 rfl (lv_at hl 0 rfl) ?_
  refine lv_bipush (v := 8) hx hb dX3_init_43 (by decide) ?_
  refine zn_i hx hb (hts (.arrayClass .int) (List.mem_of_getElem? (i := 4) rfl)) hK hP hD hS hA (N := 8) (by decide) rfl (Nat.le_of_ble_eq_true rfl) (Nat.le_of_ble_eq_true rfl) (Nat.le_of_ble_eq_true rfl) dX3_init_45 (fun q6 H hP hD hS => ?_)
  have hP : va_P D vwCl ([(h0, .inr (3, [.ref q1, .ref q2, .ref q3, .ref q4, .ref q5, .null, .int 0, .null, .null, .null, .int 0])), (q1, .inl (K 0, 12, .inl (fun _ => 0))), (q2, .inl (K 0, 12, .inl (fun _ => 0))), (q3, .inl (K 0, 12, .inl (fun _ => 0))), (q4, .inl (K 0, 4, .inl (fun _ => 0))), (q5, .inl (K 0, 4, .inl (fun _ => 0))), (q6, .inl (K 0, 8, .inl (fun _ => 0)))] : va_W) H := hP
  have hD : va_D A ([(h0, .inr (3, [.ref q1, .ref q2, .ref q3, .ref q4, .ref q5, .null, .int 0, .null, .null, .null, .int 0])), (q1, .inl (K 0, 12, .inl (fun _ => 0))), (q2, .inl (K 0, 12, .inl (fun _ => 0))), (q3, .inl (K 0, 12, .inl (fun _ => 0))), (q4, .inl (K 0, 4, .inl (fun _ => 0))), (q5, .inl (K 0, 4, .inl (fun _ => 0))), (q6, .inl (K 0, 8, .inl (fun _ => 0)))] : va_W) := hD
  refine W.widen (k := 6) (n := 52) (Nat.le_of_ble_eq_true rfl) (Nat.le_of_ble_eq_true rfl) ?_
  refine va_putF (D := D) (ci := 3) (v := .ref q6) (ty := tyX3 5) (C := RX3) (T := TX3) (N := 11) hx hb hts inX3_init_X3 tyX3 tyX3_ok nmX3 hown hK hP hD hS 0 rfl rfl 5 (by decide) (hts (.fieldLink RX3 27 "WordScales$Shop" "wishes" "[I") (List.mem_of_getElem? (i := 10) rfl)) (fun _ h9 => h9) rfl hnm rfl (tyX3_ok 5 (by decide)) rfl rfl (Nat.le_of_ble_eq_true rfl) dX3_init_47 (fun H locs hP hD hS => ?_)
  have hP : va_P D vwCl ([(h0, .inr (3, [.ref q1, .ref q2, .ref q3, .ref q4, .ref q5, .ref q6, .int 0, .null, .null, .null, .int 0])), (q1, .inl (K 0, 12, .inl (fun _ => 0))), (q2, .inl (K 0, 12, .inl (fun _ => 0))), (q3, .inl (K 0, 12, .inl (fun _ => 0))), (q4, .inl (K 0, 4, .inl (fun _ => 0))), (q5, .inl (K 0, 4, .inl (fun _ => 0))), (q6, .inl (K 0, 8, .inl (fun _ => 0)))] : va_W) H := hP
  have hD : va_D A ([(h0, .inr (3, [.ref q1, .ref q2, .ref q3, .ref q4, .ref q5, .ref q6, .int 0, .null, .null, .null, .int 0])), (q1, .inl (K 0, 12, .inl (fun _ => 0))), (q2, .inl (K 0, 12, .inl (fun _ => 0))), (q3, .inl (K 0, 12, .inl (fun _ => 0))), (q4, .inl (K 0, 4, .inl (fun _ => 0))), (q5, .inl (K 0, 4, .inl (fun _ => 0))), (q6, .inl (K 0, 8, .inl (fun _ => 0)))] : va_W) := hD
  refine lv_aload_n hx hb dX3_init_50 rfl (lv_at hl 0 rfl) ?_
  refine lv_iconst (v := 0) hx hb dX3_init_51 (by decide) ?_
  refine va_put (D := D) (ci := 3) (v := .int 0) (ty := tyX3 6) (C := RX3) (T := TX3) (N := 11) hx hb hts inX3_init_X3 tyX3 tyX3_ok nmX3 hown hK hP hD hS 0 rfl rfl 6 (by decide) (hts (.fieldLink RX3 30 "WordScales$Shop" "wishCount" "I") (List.mem_of_getElem? (i := 11) rfl)) (fun _ h9 => h9) rfl (tyX3_ok 6 (by decide)) rfl rfl (Nat.le_of_ble_eq_true rfl) dX3_init_52 (fun H locs hP hD hS => ?_)
  have hP : va_P D vwCl ([(h0, .inr (3, [.ref q1, .ref q2, .ref q3, .ref q4, .ref q5, .ref q6, .int 0, .null, .null, .null, .int 0])), (q1, .inl (K 0, 12, .inl (fun _ => 0))), (q2, .inl (K 0, 12, .inl (fun _ => 0))), (q3, .inl (K 0, 12, .inl (fun _ => 0))), (q4, .inl (K 0, 4, .inl (fun _ => 0))), (q5, .inl (K 0, 4, .inl (fun _ => 0))), (q6, .inl (K 0, 8, .inl (fun _ => 0)))] : va_W) H := hP
  have hD : va_D A ([(h0, .inr (3, [.ref q1, .ref q2, .ref q3, .ref q4, .ref q5, .ref q6, .int 0, .null, .null, .null, .int 0])), (q1, .inl (K 0, 12, .inl (fun _ => 0))), (q2, .inl (K 0, 12, .inl (fun _ => 0))), (q3, .inl (K 0, 12, .inl (fun _ => 0))), (q4, .inl (K 0, 4, .inl (fun _ => 0))), (q5, .inl (K 0, 4, .inl (fun _ => 0))), (q6, .inl (K 0, 8, .inl (fun _ => 0)))] : va_W) := hD
  refine lv_aload_n hx hb dX3_init_55 rfl (lv_at hl 0 rfl) ?_
  refine lv_bipush (v := 6) hx hb dX3_init_56 (by decide) ?_
  refine zn_i hx hb (hts (.arrayClass .int) (List.mem_of_getElem? (i := 4) rfl)) hK hP hD hS hA (N := 6) (by decide) rfl (Nat.le_of_ble_eq_true rfl) (Nat.le_of_ble_eq_true rfl) (Nat.le_of_ble_eq_true rfl) dX3_init_58 (fun q7 H hP hD hS => ?_)
  have hP : va_P D vwCl ([(h0, .inr (3, [.ref q1, .ref q2, .ref q3, .ref q4, .ref q5, .ref q6, .int 0, .null, .null, .null, .int 0])), (q1, .inl (K 0, 12, .inl (fun _ => 0))), (q2, .inl (K 0, 12, .inl (fun _ => 0))), (q3, .inl (K 0, 12, .inl (fun _ => 0))), (q4, .inl (K 0, 4, .inl (fun _ => 0))), (q5, .inl (K 0, 4, .inl (fun _ => 0))), (q6, .inl (K 0, 8, .inl (fun _ => 0))), (q7, .inl (K 0, 6, .inl (fun _ => 0)))] : va_W) H := hP
  have hD : va_D A ([(h0, .inr (3, [.ref q1, .ref q2, .ref q3, .ref q4, .ref q5, .ref q6, .int 0, .null, .null, .null, .int 0])), (q1, .inl (K 0, 12, .inl (fun _ => 0))), (q2, .inl (K 0, 12, .inl (fun _ => 0))), (q3, .inl (K 0, 12, .inl (fun _ => 0))), (q4, .inl (K 0, 4, .inl (fun _ => 0))), (q5, .inl (K 0, 4, .inl (fun _ => 0))), (q6, .inl (K 0, 8, .inl (fun _ => 0))), (q7, .inl (K 0, 6, .inl (fun _ => 0)))] : va_W) := hD
  refine W.widen (k := 7) (n := 58) (Nat.le_of_ble_eq_true rfl) (Nat.le_of_ble_eq_true rfl) ?_
  refine va_putF (D := D) (ci := 3) (v := .ref q7) (ty := tyX3 7) (C := RX3) (T := TX3) (N := 11) hx hb hts inX3_init_X3 tyX3 tyX3_ok nmX3 hown hK hP hD hS 0 rfl rfl 7 (by decide) (hts (.fieldLink RX3 34 "WordScales$Shop" "lefts" "[I") (List.mem_of_getElem? (i := 12) rfl)) (fun _ h9 => h9) rfl hnm rfl (tyX3_ok 7 (by decide)) rfl rfl (Nat.le_of_ble_eq_true rfl) dX3_init_60 (fun H locs hP hD hS => ?_)
  have hP : va_P D vwCl ([(h0, .inr (3, [.ref q1, .ref q2, .ref q3, .ref q4, .ref q5, .ref q6, .int 0, .ref q7, .null, .null, .int 0])), (q1, .inl (K 0, 12, .inl (fun _ => 0))), (q2, .inl (K 0, 12, .inl (fun _ => 0))), (q3, .inl (K 0, 12, .inl (fun _ => 0))), (q4, .inl (K 0, 4, .inl (fun _ => 0))), (q5, .inl (K 0, 4, .inl (fun _ => 0))), (q6, .inl (K 0, 8, .inl (fun _ => 0))), (q7, .inl (K 0, 6, .inl (fun _ => 0)))] : va_W) H := hP
  have hD : va_D A ([(h0, .inr (3, [.ref q1, .ref q2, .ref q3, .ref q4, .ref q5, .ref q6, .int 0, .ref q7, .null, .null, .int 0])), (q1, .inl (K 0, 12, .inl (fun _ => 0))), (q2, .inl (K 0, 12, .inl (fun _ => 0))), (q3, .inl (K 0, 12, .inl (fun _ => 0))), (q4, .inl (K 0, 4, .inl (fun _ => 0))), (q5, .inl (K 0, 4, .inl (fun _ => 0))), (q6, .inl (K 0, 8, .inl (fun _ => 0))), (q7, .inl (K 0, 6, .inl (fun _ => 0)))] : va_W) := hD
  refine lv_aload_n hx hb dX3_init_63 rfl (lv_at hl 0 rfl) ?_
  refine lv_bipush (v := 6) hx hb dX3_init_64 (by decide) ?_
  refine zn_i hx hb (hts (.arrayClass .int) (List.mem_of_getElem? (i := 4) rfl)) hK hP hD hS hA (N := 6) (by decide) rfl (Nat.le_of_ble_eq_true rfl) (Nat.le_of_ble_eq_true rfl) (Nat.le_of_ble_eq_true rfl) dX3_init_66 (fun q8 H hP hD hS => ?_)
  have hP : va_P D vwCl ([(h0, .inr (3, [.ref q1, .ref q2, .ref q3, .ref q4, .ref q5, .ref q6, .int 0, .ref q7, .null, .null, .int 0])), (q1, .inl (K 0, 12, .inl (fun _ => 0))), (q2, .inl (K 0, 12, .inl (fun _ => 0))), (q3, .inl (K 0, 12, .inl (fun _ => 0))), (q4, .inl (K 0, 4, .inl (fun _ => 0))), (q5, .inl (K 0, 4, .inl (fun _ => 0))), (q6, .inl (K 0, 8, .inl (fun _ => 0))), (q7, .inl (K 0, 6, .inl (fun _ => 0))), (q8, .inl (K 0, 6, .inl (fun _ => 0)))] : va_W) H := hP
  have hD : va_D A ([(h0, .inr (3, [.ref q1, .ref q2, .ref q3, .ref q4, .ref q5, .ref q6, .int 0, .ref q7, .null, .null, .int 0])), (q1, .inl (K 0, 12, .inl (fun _ => 0))), (q2, .inl (K 0, 12, .inl (fun _ => 0))), (q3, .inl (K 0, 12, .inl (fun _ => 0))), (q4, .inl (K 0, 4, .inl (fun _ => 0))), (q5, .inl (K 0, 4, .inl (fun _ => 0))), (q6, .inl (K 0, 8, .inl (fun _ => 0))), (q7, .inl (K 0, 6, .inl (fun _ => 0))), (q8, .inl (K 0, 6, .inl (fun _ => 0)))] : va_W) := hD
  refine W.widen (k := 8) (n := 64) (Nat.le_of_ble_eq_true rfl) (Nat.le_of_ble_eq_true rfl) ?_
  refine va_putF (D := D) (ci := 3) (v := .ref q8) (ty := tyX3 8) (C := RX3) (T := TX3) (N := 11) hx hb hts inX3_init_X3 tyX3 tyX3_ok nmX3 hown hK hP hD hS 0 rfl rfl 8 (by decide) (hts (.fieldLink RX3 37 "WordScales$Shop" "rights" "[I") (List.mem_of_getElem? (i := 13) rfl)) (fun _ h9 => h9) rfl hnm rfl (tyX3_ok 8 (by decide)) rfl rfl (Nat.le_of_ble_eq_true rfl) dX3_init_68 (fun H locs hP hD hS => ?_)
  have hP : va_P D vwCl ([(h0, .inr (3, [.ref q1, .ref q2, .ref q3, .ref q4, .ref q5, .ref q6, .int 0, .ref q7, .ref q8, .null, .int 0])), (q1, .inl (K 0, 12, .inl (fun _ => 0))), (q2, .inl (K 0, 12, .inl (fun _ => 0))), (q3, .inl (K 0, 12, .inl (fun _ => 0))), (q4, .inl (K 0, 4, .inl (fun _ => 0))), (q5, .inl (K 0, 4, .inl (fun _ => 0))), (q6, .inl (K 0, 8, .inl (fun _ => 0))), (q7, .inl (K 0, 6, .inl (fun _ => 0))), (q8, .inl (K 0, 6, .inl (fun _ => 0)))] : va_W) H := hP
  have hD : va_D A ([(h0, .inr (3, [.ref q1, .ref q2, .ref q3, .ref q4, .ref q5, .ref q6, .int 0, .ref q7, .ref q8, .null, .int 0])), (q1, .inl (K 0, 12, .inl (fun _ => 0))), (q2, .inl (K 0, 12, .inl (fun _ => 0))), (q3, .inl (K 0, 12, .inl (fun _ => 0))), (q4, .inl (K 0, 4, .inl (fun _ => 0))), (q5, .inl (K 0, 4, .inl (fun _ => 0))), (q6, .inl (K 0, 8, .inl (fun _ => 0))), (q7, .inl (K 0, 6, .inl (fun _ => 0))), (q8, .inl (K 0, 6, .inl (fun _ => 0)))] : va_W) := hD
  refine lv_aload_n hx hb dX3_init_71 rfl (lv_at hl 0 rfl) ?_
  refine lv_bipush (v := 6) hx hb dX3_init_72 (by decide) ?_
  refine zn_i hx hb (hts (.arrayClass .int) (List.mem_of_getElem? (i := 4) rfl)) hK hP hD hS hA (N := 6) (by decide) rfl (Nat.le_of_ble_eq_true rfl) (Nat.le_of_ble_eq_true rfl) (Nat.le_of_ble_eq_true rfl) dX3_init_74 (fun q9 H hP hD hS => ?_)
  have hP : va_P D vwCl ([(h0, .inr (3, [.ref q1, .ref q2, .ref q3, .ref q4, .ref q5, .ref q6, .int 0, .ref q7, .ref q8, .null, .int 0])), (q1, .inl (K 0, 12, .inl (fun _ => 0))), (q2, .inl (K 0, 12, .inl (fun _ => 0))), (q3, .inl (K 0, 12, .inl (fun _ => 0))), (q4, .inl (K 0, 4, .inl (fun _ => 0))), (q5, .inl (K 0, 4, .inl (fun _ => 0))), (q6, .inl (K 0, 8, .inl (fun _ => 0))), (q7, .inl (K 0, 6, .inl (fun _ => 0))), (q8, .inl (K 0, 6, .inl (fun _ => 0))), (q9, .inl (K 0, 6, .inl (fun _ => 0)))] : va_W) H := hP
  have hD : va_D A ([(h0, .inr (3, [.ref q1, .ref q2, .ref q3, .ref q4, .ref q5, .ref q6, .int 0, .ref q7, .ref q8, .null, .int 0])), (q1, .inl (K 0, 12, .inl (fun _ => 0))), (q2, .inl (K 0, 12, .inl (fun _ => 0))), (q3, .inl (K 0, 12, .inl (fun _ => 0))), (q4, .inl (K 0, 4, .inl (fun _ => 0))), (q5, .inl (K 0, 4, .inl (fun _ => 0))), (q6, .inl (K 0, 8, .inl (fun _ => 0))), (q7, .inl (K 0, 6, .inl (fun _ => 0))), (q8, .inl (K 0, 6, .inl (fun _ => 0))), (q9, .inl (K 0, 6, .inl (fun _ => 0)))] : va_W) := hD
  refine W.widen (k := 9) (n := 70) (Nat.le_of_ble_eq_true rfl) (Nat.le_of_ble_eq_true rfl) ?_
  refine va_putF (D := D) (ci := 3) (v := .ref q9) (ty := tyX3 9) (C := RX3) (T := TX3) (N := 11) hx hb hts inX3_init_X3 tyX3 tyX3_ok nmX3 hown hK hP hD hS 0 rfl rfl 9 (by decide) (hts (.fieldLink RX3 40 "WordScales$Shop" "outcomes" "[I") (List.mem_of_getElem? (i := 14) rfl)) (fun _ h9 => h9) rfl hnm rfl (tyX3_ok 9 (by decide)) rfl rfl (Nat.le_of_ble_eq_true rfl) dX3_init_76 (fun H locs hP hD hS => ?_)
  have hP : va_P D vwCl ([(h0, .inr (3, [.ref q1, .ref q2, .ref q3, .ref q4, .ref q5, .ref q6, .int 0, .ref q7, .ref q8, .ref q9, .int 0])), (q1, .inl (K 0, 12, .inl (fun _ => 0))), (q2, .inl (K 0, 12, .inl (fun _ => 0))), (q3, .inl (K 0, 12, .inl (fun _ => 0))), (q4, .inl (K 0, 4, .inl (fun _ => 0))), (q5, .inl (K 0, 4, .inl (fun _ => 0))), (q6, .inl (K 0, 8, .inl (fun _ => 0))), (q7, .inl (K 0, 6, .inl (fun _ => 0))), (q8, .inl (K 0, 6, .inl (fun _ => 0))), (q9, .inl (K 0, 6, .inl (fun _ => 0)))] : va_W) H := hP
  have hD : va_D A ([(h0, .inr (3, [.ref q1, .ref q2, .ref q3, .ref q4, .ref q5, .ref q6, .int 0, .ref q7, .ref q8, .ref q9, .int 0])), (q1, .inl (K 0, 12, .inl (fun _ => 0))), (q2, .inl (K 0, 12, .inl (fun _ => 0))), (q3, .inl (K 0, 12, .inl (fun _ => 0))), (q4, .inl (K 0, 4, .inl (fun _ => 0))), (q5, .inl (K 0, 4, .inl (fun _ => 0))), (q6, .inl (K 0, 8, .inl (fun _ => 0))), (q7, .inl (K 0, 6, .inl (fun _ => 0))), (q8, .inl (K 0, 6, .inl (fun _ => 0))), (q9, .inl (K 0, 6, .inl (fun _ => 0)))] : va_W) := hD
  refine lv_aload_n hx hb dX3_init_79 rfl (lv_at hl 0 rfl) ?_
  refine lv_iconst (v := 0) hx hb dX3_init_80 (by decide) ?_
  refine va_put (D := D) (ci := 3) (v := .int 0) (ty := tyX3 10) (C := RX3) (T := TX3) (N := 11) hx hb hts inX3_init_X3 tyX3 tyX3_ok nmX3 hown hK hP hD hS 0 rfl rfl 10 (by decide) (hts (.fieldLink RX3 43 "WordScales$Shop" "sightCount" "I") (List.mem_of_getElem? (i := 15) rfl)) (fun _ h9 => h9) rfl (tyX3_ok 10 (by decide)) rfl rfl (Nat.le_of_ble_eq_true rfl) dX3_init_81 (fun H locs hP hD hS => ?_)
  have hP : va_P D vwCl ([(h0, .inr (3, [.ref q1, .ref q2, .ref q3, .ref q4, .ref q5, .ref q6, .int 0, .ref q7, .ref q8, .ref q9, .int 0])), (q1, .inl (K 0, 12, .inl (fun _ => 0))), (q2, .inl (K 0, 12, .inl (fun _ => 0))), (q3, .inl (K 0, 12, .inl (fun _ => 0))), (q4, .inl (K 0, 4, .inl (fun _ => 0))), (q5, .inl (K 0, 4, .inl (fun _ => 0))), (q6, .inl (K 0, 8, .inl (fun _ => 0))), (q7, .inl (K 0, 6, .inl (fun _ => 0))), (q8, .inl (K 0, 6, .inl (fun _ => 0))), (q9, .inl (K 0, 6, .inl (fun _ => 0)))] : va_W) H := hP
  have hD : va_D A ([(h0, .inr (3, [.ref q1, .ref q2, .ref q3, .ref q4, .ref q5, .ref q6, .int 0, .ref q7, .ref q8, .ref q9, .int 0])), (q1, .inl (K 0, 12, .inl (fun _ => 0))), (q2, .inl (K 0, 12, .inl (fun _ => 0))), (q3, .inl (K 0, 12, .inl (fun _ => 0))), (q4, .inl (K 0, 4, .inl (fun _ => 0))), (q5, .inl (K 0, 4, .inl (fun _ => 0))), (q6, .inl (K 0, 8, .inl (fun _ => 0))), (q7, .inl (K 0, 6, .inl (fun _ => 0))), (q8, .inl (K 0, 6, .inl (fun _ => 0))), (q9, .inl (K 0, 6, .inl (fun _ => 0)))] : va_W) := hD
  refine lv_iconst (v := 0) hx hb dX3_init_84 (by decide) ?_
  refine lv_istore_n (lv' := [(1, .int 0), (0, .ref h0)]) hx hb dX3_init_85 rfl hl (by decide) rfl (fun ls hl => ?_)
  obtain ⟨r10, hr10, hf⟩ := ob_el hf
  have post86 : ∀ (e86_l1 : Int32) (e86_f1 : Nat → Int32) (e86_f2 : Nat → Int32) (e86_f3 : Nat → Int32) (H : Heap) (locs : List Loc) (ls : Array Slot), (ob (wh (s_X3_init_124) 5000 (0, (fun _ => 0))) (fun r11 => some (e86_f1, e86_f2, e86_f3, r11.2, (fun _ => 0), (fun _ => 0), 0, (fun _ => 0), (fun _ => 0), (fun _ => 0), 0))) = some out → va_P D vwCl ([(h0, .inr (3, [.ref q1, .ref q2, .ref q3, .ref q4, .ref q5, .ref q6, .int 0, .ref q7, .ref q8, .ref q9, .int 0])), (q1, .inl (K 0, 12, .inl e86_f1)), (q2, .inl (K 0, 12, .inl e86_f2)), (q3, .inl (K 0, 12, .inl e86_f3)), (q4, .inl (K 0, 4, .inl (fun _ => 0))), (q5, .inl (K 0, 4, .inl (fun _ => 0))), (q6, .inl (K 0, 8, .inl (fun _ => 0))), (q7, .inl (K 0, 6, .inl (fun _ => 0))), (q8, .inl (K 0, 6, .inl (fun _ => 0))), (q9, .inl (K 0, 6, .inl (fun _ => 0)))] : va_W) H → va_D A ([(h0, .inr (3, [.ref q1, .ref q2, .ref q3, .ref q4, .ref q5, .ref q6, .int 0, .ref q7, .ref q8, .ref q9, .int 0])), (q1, .inl (K 0, 12, .inl e86_f1)), (q2, .inl (K 0, 12, .inl e86_f2)), (q3, .inl (K 0, 12, .inl e86_f3)), (q4, .inl (K 0, 4, .inl (fun _ => 0))), (q5, .inl (K 0, 4, .inl (fun _ => 0))), (q6, .inl (K 0, 8, .inl (fun _ => 0))), (q7, .inl (K 0, 6, .inl (fun _ => 0))), (q8, .inl (K 0, 6, .inl (fun _ => 0))), (q9, .inl (K 0, 6, .inl (fun _ => 0)))] : va_W) → va_S A H0 H locs → lv_has ls 2 [(1, .int e86_l1), (0, .ref h0)] → W p l e rmX3_init s m args below meth c H locs 9 70 Q (F0 m 122 ls []) := by
    intro e86_l1 e86_f1 e86_f2 e86_f3 H locs ls hf hP hD hS hl
    refine lv_iconst (v := 0) hx hb dX3_init_122 (by decide) ?_
    refine lv_istore_n (lv' := [(1, .int 0), (0, .ref h0)]) hx hb dX3_init_123 rfl hl (by decide) rfl (fun ls hl => ?_)
    obtain ⟨r11, hr11, hf⟩ := ob_el hf
    have post124 : ∀ (e124_l1 : Int32) (e124_f4 : Nat → Int32) (H : Heap) (locs : List Loc) (ls : Array Slot), (some (e86_f1, e86_f2, e86_f3, e124_f4, (fun _ => 0), (fun _ => 0), 0, (fun _ => 0), (fun _ => 0), (fun _ => 0), 0)) = some out → va_P D vwCl ([(h0, .inr (3, [.ref q1, .ref q2, .ref q3, .ref q4, .ref q5, .ref q6, .int 0, .ref q7, .ref q8, .ref q9, .int 0])), (q1, .inl (K 0, 12, .inl e86_f1)), (q2, .inl (K 0, 12, .inl e86_f2)), (q3, .inl (K 0, 12, .inl e86_f3)), (q4, .inl (K 0, 4, .inl e124_f4)), (q5, .inl (K 0, 4, .inl (fun _ => 0))), (q6, .inl (K 0, 8, .inl (fun _ => 0))), (q7, .inl (K 0, 6, .inl (fun _ => 0))), (q8, .inl (K 0, 6, .inl (fun _ => 0))), (q9, .inl (K 0, 6, .inl (fun _ => 0)))] : va_W) H → va_D A ([(h0, .inr (3, [.ref q1, .ref q2, .ref q3, .ref q4, .ref q5, .ref q6, .int 0, .ref q7, .ref q8, .ref q9, .int 0])), (q1, .inl (K 0, 12, .inl e86_f1)), (q2, .inl (K 0, 12, .inl e86_f2)), (q3, .inl (K 0, 12, .inl e86_f3)), (q4, .inl (K 0, 4, .inl e124_f4)), (q5, .inl (K 0, 4, .inl (fun _ => 0))), (q6, .inl (K 0, 8, .inl (fun _ => 0))), (q7, .inl (K 0, 6, .inl (fun _ => 0))), (q8, .inl (K 0, 6, .inl (fun _ => 0))), (q9, .inl (K 0, 6, .inl (fun _ => 0)))] : va_W) → va_S A H0 H locs → lv_has ls 2 [(1, .int e124_l1), (0, .ref h0)] → W p l e rmX3_init s m args below meth c H locs 9 70 Q (F0 m 143 ls []) := by
      intro e124_l1 e124_f4 H locs ls hf hP hD hS hl
      obtain rfl := Option.some.inj hf
      exact hret (fun i => [h0, q1, q2, q3, q4, q5, q6, q7, q8, q9].getD i 0) rfl rfl hP hD hS dX3_init_143
    have lp124 : ∀ (fu : Nat) (x124_l1 : Int32) (x124_f4 : Nat → Int32) (H : Heap) (locs : List Loc) (ls : Array Slot), wh (s_X3_init_124) fu (x124_l1, x124_f4) = some r11 → va_P D vwCl ([(h0, .inr (3, [.ref q1, .ref q2, .ref q3, .ref q4, .ref q5, .ref q6, .int 0, .ref q7, .ref q8, .ref q9, .int 0])), (q1, .inl (K 0, 12, .inl e86_f1)), (q2, .inl (K 0, 12, .inl e86_f2)), (q3, .inl (K 0, 12, .inl e86_f3)), (q4, .inl (K 0, 4, .inl x124_f4)), (q5, .inl (K 0, 4, .inl (fun _ => 0))), (q6, .inl (K 0, 8, .inl (fun _ => 0))), (q7, .inl (K 0, 6, .inl (fun _ => 0))), (q8, .inl (K 0, 6, .inl (fun _ => 0))), (q9, .inl (K 0, 6, .inl (fun _ => 0)))] : va_W) H → va_D A ([(h0, .inr (3, [.ref q1, .ref q2, .ref q3, .ref q4, .ref q5, .ref q6, .int 0, .ref q7, .ref q8, .ref q9, .int 0])), (q1, .inl (K 0, 12, .inl e86_f1)), (q2, .inl (K 0, 12, .inl e86_f2)), (q3, .inl (K 0, 12, .inl e86_f3)), (q4, .inl (K 0, 4, .inl x124_f4)), (q5, .inl (K 0, 4, .inl (fun _ => 0))), (q6, .inl (K 0, 8, .inl (fun _ => 0))), (q7, .inl (K 0, 6, .inl (fun _ => 0))), (q8, .inl (K 0, 6, .inl (fun _ => 0))), (q9, .inl (K 0, 6, .inl (fun _ => 0)))] : va_W) → va_S A H0 H locs → lv_has ls 2 [(1, .int x124_l1), (0, .ref h0)] → W p l e rmX3_init s m args below meth c H locs 9 70 Q (F0 m 124 ls []) := by
      intro fu
      induction fu with
      | zero => intro x124_l1 x124_f4 H locs ls hw124; cases hw124
      | succ fu ih124 =>
        intro x124_l1 x124_f4 H locs ls hw124 hP hD hS hl
        obtain ⟨o124_, hs124, hw124⟩ := wh_el hw124
        unfold s_X3_init_124 at hs124
        dsimp only at hs124
        refine lv_iload_n hx hb dX3_init_124 rfl (lv_at hl 0 rfl) ?_
        refine lv_iconst (v := 4) hx hb dX3_init_125 (by decide) ?_
        refine lv_icmp_ge (tgt := 143) hx hb dX3_init_126 (by decide) (fun c12 => ?_) (fun c12 => ?_)
        · rw [if_pos c12] at hs124
          obtain rfl := Option.some.inj hs124
          have e9 := Option.some.inj hw124
          rw [← e9] at hf
          exact post124 _ _ _ _ _ hf hP hD hS (lv_sub hl [0, 1] rfl)
        · rw [if_neg c12] at hs124
          refine lv_aload_n hx hb dX3_init_129 rfl (lv_at hl 1 rfl) ?_
          refine va_get (D := D) (ci := 3) (v := .ref q4) (C := RX3) (T := TX3) (N := 11) hx hb hts inX3_init_X3 hown hK hP 0 rfl rfl 3 (by decide) (hts (.fieldLink RX3 21 "WordScales$Shop" "purses" "[I") (List.mem_of_getElem? (i := 8) rfl)) (fun _ h9 => h9) rfl dX3_init_130 ?_
          refine lv_iload_n hx hb dX3_init_133 rfl (lv_at hl 0 rfl) ?_
          refine lv_bipush (v := 50) hx hb dX3_init_134 (by decide) ?_
          obtain ⟨v13, hs124⟩ := chk_el hs124
          refine va_iast (D := D) (f := x124_f4) hx hb hK hP hD hS 4 0 rfl rfl v13 dX3_init_136 (fun H locs hP hD hS => ?_)
          have hP : va_P D vwCl ([(h0, .inr (3, [.ref q1, .ref q2, .ref q3, .ref q4, .ref q5, .ref q6, .int 0, .ref q7, .ref q8, .ref q9, .int 0])), (q1, .inl (K 0, 12, .inl e86_f1)), (q2, .inl (K 0, 12, .inl e86_f2)), (q3, .inl (K 0, 12, .inl e86_f3)), (q4, .inl (K 0, 4, .inl (upd x124_f4 (x124_l1).toNatClampNeg 50))), (q5, .inl (K 0, 4, .inl (fun _ => 0))), (q6, .inl (K 0, 8, .inl (fun _ => 0))), (q7, .inl (K 0, 6, .inl (fun _ => 0))), (q8, .inl (K 0, 6, .inl (fun _ => 0))), (q9, .inl (K 0, 6, .inl (fun _ => 0)))] : va_W) H := hP
          have hD : va_D A ([(h0, .inr (3, [.ref q1, .ref q2, .ref q3, .ref q4, .ref q5, .ref q6, .int 0, .ref q7, .ref q8, .ref q9, .int 0])), (q1, .inl (K 0, 12, .inl e86_f1)), (q2, .inl (K 0, 12, .inl e86_f2)), (q3, .inl (K 0, 12, .inl e86_f3)), (q4, .inl (K 0, 4, .inl (upd x124_f4 (x124_l1).toNatClampNeg 50))), (q5, .inl (K 0, 4, .inl (fun _ => 0))), (q6, .inl (K 0, 8, .inl (fun _ => 0))), (q7, .inl (K 0, 6, .inl (fun _ => 0))), (q8, .inl (K 0, 6, .inl (fun _ => 0))), (q9, .inl (K 0, 6, .inl (fun _ => 0)))] : va_W) := hD
          refine lv_iinc (v := (x124_l1 + 1)) (lv' := [(1, .int (x124_l1 + 1)), (0, .ref h0)]) hx hb dX3_init_137 hl (k := 0) rfl (by rfl) (by decide) rfl (fun ls hl => ?_)
          refine lv_goto (tgt := 124) hx hb dX3_init_140 (by decide) ?_
          obtain rfl := Option.some.inj hs124
          exact ih124 _ _ _ _ _ hw124 hP hD hS (lv_sub hl [0, 1] rfl)
    exact lp124 5000 _ _ _ _ _ hr11 hP hD hS (lv_sub hl [0, 1] rfl)
  have lp86 : ∀ (fu : Nat) (x86_l1 : Int32) (x86_f1 : Nat → Int32) (x86_f2 : Nat → Int32) (x86_f3 : Nat → Int32) (H : Heap) (locs : List Loc) (ls : Array Slot), wh (s_X3_init_86) fu (x86_l1, x86_f1, x86_f2, x86_f3) = some r10 → va_P D vwCl ([(h0, .inr (3, [.ref q1, .ref q2, .ref q3, .ref q4, .ref q5, .ref q6, .int 0, .ref q7, .ref q8, .ref q9, .int 0])), (q1, .inl (K 0, 12, .inl x86_f1)), (q2, .inl (K 0, 12, .inl x86_f2)), (q3, .inl (K 0, 12, .inl x86_f3)), (q4, .inl (K 0, 4, .inl (fun _ => 0))), (q5, .inl (K 0, 4, .inl (fun _ => 0))), (q6, .inl (K 0, 8, .inl (fun _ => 0))), (q7, .inl (K 0, 6, .inl (fun _ => 0))), (q8, .inl (K 0, 6, .inl (fun _ => 0))), (q9, .inl (K 0, 6, .inl (fun _ => 0)))] : va_W) H → va_D A ([(h0, .inr (3, [.ref q1, .ref q2, .ref q3, .ref q4, .ref q5, .ref q6, .int 0, .ref q7, .ref q8, .ref q9, .int 0])), (q1, .inl (K 0, 12, .inl x86_f1)), (q2, .inl (K 0, 12, .inl x86_f2)), (q3, .inl (K 0, 12, .inl x86_f3)), (q4, .inl (K 0, 4, .inl (fun _ => 0))), (q5, .inl (K 0, 4, .inl (fun _ => 0))), (q6, .inl (K 0, 8, .inl (fun _ => 0))), (q7, .inl (K 0, 6, .inl (fun _ => 0))), (q8, .inl (K 0, 6, .inl (fun _ => 0))), (q9, .inl (K 0, 6, .inl (fun _ => 0)))] : va_W) → va_S A H0 H locs → lv_has ls 2 [(1, .int x86_l1), (0, .ref h0)] → W p l e rmX3_init s m args below meth c H locs 9 70 Q (F0 m 86 ls []) := by
    intro fu
    induction fu with
    | zero => intro x86_l1 x86_f1 x86_f2 x86_f3 H locs ls hw86; cases hw86
    | succ fu ih86 =>
      intro x86_l1 x86_f1 x86_f2 x86_f3 H locs ls hw86 hP hD hS hl
      obtain ⟨o86_, hs86, hw86⟩ := wh_el hw86
      unfold s_X3_init_86 at hs86
      dsimp only at hs86
      refine lv_iload_n hx hb dX3_init_86 rfl (lv_at hl 0 rfl) ?_
      refine lv_bipush (v := 12) hx hb dX3_init_87 (by decide) ?_
      refine lv_icmp_ge (tgt := 122) hx hb dX3_init_89 (by decide) (fun c14 => ?_) (fun c14 => ?_)
      · rw [if_pos c14] at hs86
        obtain rfl := Option.some.inj hs86
        have e9 := Option.some.inj hw86
        rw [← e9] at hf
        exact post86 _ _ _ _ _ _ _ hf hP hD hS (lv_sub hl [0, 1] rfl)
      · rw [if_neg c14] at hs86
        refine lv_aload_n hx hb dX3_init_92 rfl (lv_at hl 1 rfl) ?_
        refine va_get (D := D) (ci := 3) (v := .ref q1) (C := RX3) (T := TX3) (N := 11) hx hb hts inX3_init_X3 hown hK hP 0 rfl rfl 0 (by decide) (hts (.fieldLink RX3 9 "WordScales$Shop" "weights" "[I") (List.mem_of_getElem? (i := 5) rfl)) (fun _ h9 => h9) rfl dX3_init_93 ?_
        refine lv_iload_n hx hb dX3_init_96 rfl (lv_at hl 0 rfl) ?_
        refine lv_bipush (v := 10) hx hb dX3_init_97 (by decide) ?_
        obtain ⟨v15, hs86⟩ := chk_el hs86
        refine va_iast (D := D) (f := x86_f1) hx hb hK hP hD hS 1 0 rfl rfl v15 dX3_init_99 (fun H locs hP hD hS => ?_)
        have hP : va_P D vwCl ([(h0, .inr (3, [.ref q1, .ref q2, .ref q3, .ref q4, .ref q5, .ref q6, .int 0, .ref q7, .ref q8, .ref q9, .int 0])), (q1, .inl (K 0, 12, .inl (upd x86_f1 (x86_l1).toNatClampNeg 10))), (q2, .inl (K 0, 12, .inl x86_f2)), (q3, .inl (K 0, 12, .inl x86_f3)), (q4, .inl (K 0, 4, .inl (fun _ => 0))), (q5, .inl (K 0, 4, .inl (fun _ => 0))), (q6, .inl (K 0, 8, .inl (fun _ => 0))), (q7, .inl (K 0, 6, .inl (fun _ => 0))), (q8, .inl (K 0, 6, .inl (fun _ => 0))), (q9, .inl (K 0, 6, .inl (fun _ => 0)))] : va_W) H := hP
        have hD : va_D A ([(h0, .inr (3, [.ref q1, .ref q2, .ref q3, .ref q4, .ref q5, .ref q6, .int 0, .ref q7, .ref q8, .ref q9, .int 0])), (q1, .inl (K 0, 12, .inl (upd x86_f1 (x86_l1).toNatClampNeg 10))), (q2, .inl (K 0, 12, .inl x86_f2)), (q3, .inl (K 0, 12, .inl x86_f3)), (q4, .inl (K 0, 4, .inl (fun _ => 0))), (q5, .inl (K 0, 4, .inl (fun _ => 0))), (q6, .inl (K 0, 8, .inl (fun _ => 0))), (q7, .inl (K 0, 6, .inl (fun _ => 0))), (q8, .inl (K 0, 6, .inl (fun _ => 0))), (q9, .inl (K 0, 6, .inl (fun _ => 0)))] : va_W) := hD
        refine lv_aload_n hx hb dX3_init_100 rfl (lv_at hl 1 rfl) ?_
        refine va_get (D := D) (ci := 3) (v := .ref q2) (C := RX3) (T := TX3) (N := 11) hx hb hts inX3_init_X3 hown hK hP 0 rfl rfl 1 (by decide) (hts (.fieldLink RX3 15 "WordScales$Shop" "kinds" "[I") (List.mem_of_getElem? (i := 6) rfl)) (fun _ h9 => h9) rfl dX3_init_101 ?_
        refine lv_iload_n hx hb dX3_init_104 rfl (lv_at hl 0 rfl) ?_
        refine lv_iconst (v := 0) hx hb dX3_init_105 (by decide) ?_
        refine va_iast (D := D) (f := x86_f2) hx hb hK hP hD hS 2 0 rfl rfl v15 dX3_init_106 (fun H locs hP hD hS => ?_)
        have hP : va_P D vwCl ([(h0, .inr (3, [.ref q1, .ref q2, .ref q3, .ref q4, .ref q5, .ref q6, .int 0, .ref q7, .ref q8, .ref q9, .int 0])), (q1, .inl (K 0, 12, .inl (upd x86_f1 (x86_l1).toNatClampNeg 10))), (q2, .inl (K 0, 12, .inl (upd x86_f2 (x86_l1).toNatClampNeg 0))), (q3, .inl (K 0, 12, .inl x86_f3)), (q4, .inl (K 0, 4, .inl (fun _ => 0))), (q5, .inl (K 0, 4, .inl (fun _ => 0))), (q6, .inl (K 0, 8, .inl (fun _ => 0))), (q7, .inl (K 0, 6, .inl (fun _ => 0))), (q8, .inl (K 0, 6, .inl (fun _ => 0))), (q9, .inl (K 0, 6, .inl (fun _ => 0)))] : va_W) H := hP
        have hD : va_D A ([(h0, .inr (3, [.ref q1, .ref q2, .ref q3, .ref q4, .ref q5, .ref q6, .int 0, .ref q7, .ref q8, .ref q9, .int 0])), (q1, .inl (K 0, 12, .inl (upd x86_f1 (x86_l1).toNatClampNeg 10))), (q2, .inl (K 0, 12, .inl (upd x86_f2 (x86_l1).toNatClampNeg 0))), (q3, .inl (K 0, 12, .inl x86_f3)), (q4, .inl (K 0, 4, .inl (fun _ => 0))), (q5, .inl (K 0, 4, .inl (fun _ => 0))), (q6, .inl (K 0, 8, .inl (fun _ => 0))), (q7, .inl (K 0, 6, .inl (fun _ => 0))), (q8, .inl (K 0, 6, .inl (fun _ => 0))), (q9, .inl (K 0, 6, .inl (fun _ => 0)))] : va_W) := hD
        refine lv_aload_n hx hb dX3_init_107 rfl (lv_at hl 1 rfl) ?_
        refine va_get (D := D) (ci := 3) (v := .ref q3) (C := RX3) (T := TX3) (N := 11) hx hb hts inX3_init_X3 hown hK hP 0 rfl rfl 2 (by decide) (hts (.fieldLink RX3 18 "WordScales$Shop" "rhymes" "[I") (List.mem_of_getElem? (i := 7) rfl)) (fun _ h9 => h9) rfl dX3_init_108 ?_
        refine lv_iload_n hx hb dX3_init_111 rfl (lv_at hl 0 rfl) ?_
        refine lv_iconst (v := 1) hx hb dX3_init_112 (by decide) ?_
        refine lv_iload_n hx hb dX3_init_113 rfl (lv_at hl 0 rfl) ?_
        refine lv_ishl hx hb dX3_init_114 ?_
        refine va_iast (D := D) (f := x86_f3) hx hb hK hP hD hS 3 0 rfl rfl v15 dX3_init_115 (fun H locs hP hD hS => ?_)
        have hP : va_P D vwCl ([(h0, .inr (3, [.ref q1, .ref q2, .ref q3, .ref q4, .ref q5, .ref q6, .int 0, .ref q7, .ref q8, .ref q9, .int 0])), (q1, .inl (K 0, 12, .inl (upd x86_f1 (x86_l1).toNatClampNeg 10))), (q2, .inl (K 0, 12, .inl (upd x86_f2 (x86_l1).toNatClampNeg 0))), (q3, .inl (K 0, 12, .inl (upd x86_f3 (x86_l1).toNatClampNeg (1 <<< (x86_l1 &&& 31))))), (q4, .inl (K 0, 4, .inl (fun _ => 0))), (q5, .inl (K 0, 4, .inl (fun _ => 0))), (q6, .inl (K 0, 8, .inl (fun _ => 0))), (q7, .inl (K 0, 6, .inl (fun _ => 0))), (q8, .inl (K 0, 6, .inl (fun _ => 0))), (q9, .inl (K 0, 6, .inl (fun _ => 0)))] : va_W) H := hP
        have hD : va_D A ([(h0, .inr (3, [.ref q1, .ref q2, .ref q3, .ref q4, .ref q5, .ref q6, .int 0, .ref q7, .ref q8, .ref q9, .int 0])), (q1, .inl (K 0, 12, .inl (upd x86_f1 (x86_l1).toNatClampNeg 10))), (q2, .inl (K 0, 12, .inl (upd x86_f2 (x86_l1).toNatClampNeg 0))), (q3, .inl (K 0, 12, .inl (upd x86_f3 (x86_l1).toNatClampNeg (1 <<< (x86_l1 &&& 31))))), (q4, .inl (K 0, 4, .inl (fun _ => 0))), (q5, .inl (K 0, 4, .inl (fun _ => 0))), (q6, .inl (K 0, 8, .inl (fun _ => 0))), (q7, .inl (K 0, 6, .inl (fun _ => 0))), (q8, .inl (K 0, 6, .inl (fun _ => 0))), (q9, .inl (K 0, 6, .inl (fun _ => 0)))] : va_W) := hD
        refine lv_iinc (v := (x86_l1 + 1)) (lv' := [(1, .int (x86_l1 + 1)), (0, .ref h0)]) hx hb dX3_init_116 hl (k := 0) rfl (by rfl) (by decide) rfl (fun ls hl => ?_)
        refine lv_goto (tgt := 86) hx hb dX3_init_119 (by decide) ?_
        obtain rfl := Option.some.inj hs86
        exact ih86 _ _ _ _ _ _ _ hw86 hP hD hS (lv_sub hl [0, 1] rfl)
  exact lp86 5000 _ _ _ _ _ _ _ hr10 hP hD hS (lv_sub hl [0, 1] rfl)
def f_X1_init : Option (Int32 × Int32 × Int32 × Int32 × Int32 × Int32 × Int32 × Int32 × (Nat → Int32) × (Nat → Int32) × (Nat → Int32) × (Nat → Int32) × (Nat → Int32) × (Nat → Int32) × Int32 × (Nat → Int32) × (Nat → Int32) × (Nat → Int32) × Int32 × Int32 × Int32 × Int32 × Int32 × Int32 × Int32 × Int32) := ob f_X3_init (fun o2 => bd f_X0_init (fun o5 => bd f_X2_init (fun o8 => some (0, 0, 0, 0, 0, 0, (-6), (-1), o2.1, o2.2.1, o2.2.2.1, o2.2.2.2.1, o2.2.2.2.2.1, o2.2.2.2.2.2.1, o2.2.2.2.2.2.2.1, o2.2.2.2.2.2.2.2.1, o2.2.2.2.2.2.2.2.2.1, o2.2.2.2.2.2.2.2.2.2.1, o2.2.2.2.2.2.2.2.2.2.2, o5.1, o5.2.1, o5.2.2.1, o5.2.2.2.1, o5.2.2.2.2, o8.1, o8.2))))
theorem inX1_init_X0 : ∀ w ∈ wsX00, w ∈ wsX1_init := fun w h => List.mem_cons_of_mem _ (List.mem_append_left _ (List.mem_append_right _ h))
theorem inX1_init_X1 : ∀ w ∈ wsX10, w ∈ wsX1_init := fun w h => List.mem_cons_of_mem _ (List.mem_append_left _ (List.mem_append_left _ (List.mem_append_right _ h)))
theorem inX1_init_X2 : ∀ w ∈ wsX20, w ∈ wsX1_init := fun w h => List.mem_cons_of_mem _ (List.mem_append_right _ h)
theorem inX1_init_X3 : ∀ w ∈ wsX30, w ∈ wsX1_init := fun w h => List.mem_cons_of_mem _ (List.mem_append_left _ (List.mem_append_left _ (List.mem_append_left _ (List.mem_append_right _ h))))
theorem yd_X1_init : yX1_init.cls ≠ "java/lang/invoke/MethodHandle" ∧ yX1_init.cls ≠ "java/lang/invoke/VarHandle" ∧ (parseMethodDescriptor yX1_init.desc).map (fun d => d.parameters.length) = some 0 := by decide +kernel
abbrev rmX1_init : Room := { frames := 2, cells := 12, slots := 88, locals := 41 }
set_option maxHeartbeats 4000000 in
set_option maxRecDepth 100000 in
theorem k_X1_init (l : Launch) (D : va_G) (K : Nat → ClassId) (h0 : Nat) (out : Int32 × Int32 × Int32 × Int32 × Int32 × Int32 × Int32 × Int32 × (Nat → Int32) × (Nat → Int32) × (Nat → Int32) × (Nat → Int32) × (Nat → Int32) × (Nat → Int32) × Int32 × (Nat → Int32) × (Nat → Int32) × (Nat → Int32) × Int32 × Int32 × Int32 × Int32 × Int32 × Int32 × Int32 × Int32) (hf : f_X1_init = some out) : kN l D K yX1_init wsX1_init rmX1_init [.ref h0] ([(h0, .inr (1, [.null, .null, .null, .int 0, .int 0, .int 0, .int 0, .int 0, .int 0, .int 0, .int 0]))] : va_W) (fun (u : Nat × Nat × (Nat → Nat)) => True) (fun u => ((dyW h0 (u.2.2 0) u.1 u.2.1 out.1 out.2.1 out.2.2.1 out.2.2.2.1 out.2.2.2.2.1 out.2.2.2.2.2.1 out.2.2.2.2.2.2.1 out.2.2.2.2.2.2.2.1) ++ ((shW K u.2.2 out.2.2.2.2.2.2.2.2.1 out.2.2.2.2.2.2.2.2.2.1 out.2.2.2.2.2.2.2.2.2.2.1 out.2.2.2.2.2.2.2.2.2.2.2.1 out.2.2.2.2.2.2.2.2.2.2.2.2.1 out.2.2.2.2.2.2.2.2.2.2.2.2.2.1 out.2.2.2.2.2.2.2.2.2.2.2.2.2.2.1 out.2.2.2.2.2.2.2.2.2.2.2.2.2.2.2.1 out.2.2.2.2.2.2.2.2.2.2.2.2.2.2.2.2.1 out.2.2.2.2.2.2.2.2.2.2.2.2.2.2.2.2.2.1 out.2.2.2.2.2.2.2.2.2.2.2.2.2.2.2.2.2.2.1) ++ ((rdW u.1 out.2.2.2.2.2.2.2.2.2.2.2.2.2.2.2.2.2.2.2.1 out.2.2.2.2.2.2.2.2.2.2.2.2.2.2.2.2.2.2.2.2.1 out.2.2.2.2.2.2.2.2.2.2.2.2.2.2.2.2.2.2.2.2.2.1 out.2.2.2.2.2.2.2.2.2.2.2.2.2.2.2.2.2.2.2.2.2.2.1 out.2.2.2.2.2.2.2.2.2.2.2.2.2.2.2.2.2.2.2.2.2.2.2.1) ++ (rwW u.2.1 out.2.2.2.2.2.2.2.2.2.2.2.2.2.2.2.2.2.2.2.2.2.2.2.2.1 out.2.2.2.2.2.2.2.2.2.2.2.2.2.2.2.2.2.2.2.2.2.2.2.2.2))))) 12 88 := by
  refine kN.of (cc := cX1_init) (maxL := 1) (by decide) rfl (Nat.le_of_ble_eq_true rfl) ?_
  intro p e s m args below meth c A H0 Q ls hx hb hml hown hnm hts hK hN hA hP hD hS hl hret
  have hown : s.vm.findClass RX1 = some m.cls := hown
  have hnm : meth.name = "<init>" := hnm
  have hl : lv_has ls 1 [(0, .ref h0)] := hl
  generalize hH : H0 = H at hP ⊢
  have hS : va_S A H0 H [] := by rw [← hH]; exact hS
  clear hH
  unfold f_X1_init at hf
  refine lv_aload_n hx hb dX1_init_0 rfl (lv_at hl 0 rfl) ?_
  refine W.objInit hx hb hown (hts (.methodLink RX1 3 objectInit) (List.mem_of_getElem? (i := 1) rfl)) (hts (.instanceMethod objectInit) (List.mem_of_getElem? (i := 2) rfl)) (hts (.code objectInit ⟨#[0xb1]⟩ 1 none) (List.mem_of_getElem? (i := 3) rfl)) rfl (hl.1.trans hml.symm) rfl dX1_init_1 (Nat.le_of_ble_eq_true rfl) (Nat.le_of_ble_eq_true rfl) ?_
  refine W.eq (g2 := F0 m 4 ls []) rfl ?_
  refine lv_aload_n hx hb dX1_init_4 rfl (lv_at hl 0 rfl) ?_
  refine va_new (ci := 3) (fs := [.null, .null, .null, .null, .null, .null, .int 0, .null, .null, .null, .int 0]) (C := RX3) (T := TX3) (N := 11) hx hb hts inX1_init_X3 tyX3 tyX3_ok hown (hts (.classLink RX1 9 RX3) (List.mem_of_getElem? (i := 4) rfl)) (hts (.instantiable RX3 11) (List.mem_of_getElem? (i := 5) rfl)) (hts (.initialized RX3) (List.mem_of_getElem? (i := 6) rfl)) hK hP hD hS hA rfl (fun j hj => by rcases (show j = 0 ∨ j = 1 ∨ j = 2 ∨ j = 3 ∨ j = 4 ∨ j = 5 ∨ j = 6 ∨ j = 7 ∨ j = 8 ∨ j = 9 ∨ j = 10 by omega) with rfl | rfl | rfl | rfl | rfl | rfl | rfl | rfl | rfl | rfl | rfl <;> rfl) (Nat.le_of_ble_eq_true rfl) (Nat.le_of_ble_eq_true rfl) dX1_init_5 (fun q1 H hP hD hS => ?_)
  have hP : va_P D vwCl ([(h0, .inr (1, [.null, .null, .null, .int 0, .int 0, .int 0, .int 0, .int 0, .int 0, .int 0, .int 0])), (q1, .inr (3, [.null, .null, .null, .null, .null, .null, .int 0, .null, .null, .null, .int 0]))] : va_W) H := hP
  have hD : va_D A ([(h0, .inr (1, [.null, .null, .null, .int 0, .int 0, .int 0, .int 0, .int 0, .int 0, .int 0, .int 0])), (q1, .inr (3, [.null, .null, .null, .null, .null, .null, .int 0, .null, .null, .null, .int 0]))] : va_W) := hD
  refine W.widen (k := 1) (n := 11) (Nat.le_of_ble_eq_true rfl) (Nat.le_of_ble_eq_true rfl) ?_
  refine lv_dup hx hb dX1_init_8 rfl ?_
  obtain ⟨o2, ho2, hf⟩ := ob_el hf
  have hPc : va_P D vwCl ([(q1, .inr (3, [.null, .null, .null, .null, .null, .null, .int 0, .null, .null, .null, .int 0]))] : va_W) H := hP.sub [1] rfl
  have hDc : va_D A ([(q1, .inr (3, [.null, .null, .null, .null, .null, .null, .int 0, .null, .null, .null, .int 0]))] : va_W) := hD.sub [1] rfl rfl
  refine kcn_v (D := D) (wr := ([(h0, .inr (1, [.null, .null, .null, .int 0, .int 0, .int 0, .int 0, .int 0, .int 0, .int 0, .int 0]))] : va_W)) (va_runIN (As := []) (rest := [.ref q1, .ref h0]) ⟨hx, hb, hml, hown, hts⟩ (k_X3_init l D K q1 o2 ho2 H.size) ⟨va_cnB 0 hts gX1_init_X3_init_n11 rfl rfl rfl (hN _ (List.mem_of_getElem? (i := 29) rfl)) (hts (.initialized RX3) (List.mem_of_getElem? (i := 6) rfl)) yd_X3_init ⟨Nat.le_of_ble_eq_true rfl, Nat.le_of_ble_eq_true rfl⟩, rfl, (hts (.instanceMethod yX3_init) (List.mem_of_getElem? (i := 24) rfl))⟩ (kPreS hPc hDc hK hN) rfl rfl hl.1 rfl (lv_room (Nat.le_of_ble_eq_true rfl)) dX1_init_9 ⟨Nat.le_of_ble_eq_true rfl, Nat.le_of_ble_eq_true rfl⟩) hP hD hS hA [1] [0] rfl rfl (by decide +kernel) (by decide +kernel) (fun u3 Hn locsn hpost hPn hDn hSn => ?_)
  obtain rfl := hpost
  have hP : va_P D vwCl (([(h0, .inr (1, [.null, .null, .null, .int 0, .int 0, .int 0, .int 0, .int 0, .int 0, .int 0, .int 0]))] : va_W) ++ (shW K u3 o2.1 o2.2.1 o2.2.2.1 o2.2.2.2.1 o2.2.2.2.2.1 o2.2.2.2.2.2.1 o2.2.2.2.2.2.2.1 o2.2.2.2.2.2.2.2.1 o2.2.2.2.2.2.2.2.2.1 o2.2.2.2.2.2.2.2.2.2.1 o2.2.2.2.2.2.2.2.2.2.2)) Hn := hPn
  have hD : va_D A (([(h0, .inr (1, [.null, .null, .null, .int 0, .int 0, .int 0, .int 0, .int 0, .int 0, .int 0, .int 0]))] : va_W) ++ (shW K u3 o2.1 o2.2.1 o2.2.2.1 o2.2.2.2.1 o2.2.2.2.2.1 o2.2.2.2.2.2.1 o2.2.2.2.2.2.2.1 o2.2.2.2.2.2.2.2.1 o2.2.2.2.2.2.2.2.2.1 o2.2.2.2.2.2.2.2.2.2.1 o2.2.2.2.2.2.2.2.2.2.2)) := hDn
  have hS := hSn
  clear hPn hDn hSn
  generalize Hn = H at hP hS ⊢
  generalize locsn = locs at hS ⊢
  refine W.widen (k := 10) (n := 81) (Nat.le_of_ble_eq_true rfl) (Nat.le_of_ble_eq_true rfl) ?_
  refine va_putF (D := D) (ci := 1) (v := .ref (u3 0)) (ty := tyX1 0) (C := RX1) (T := TX1) (N := 11) hx hb hts inX1_init_X1 tyX1 tyX1_ok nmX1 hown hK hP hD hS 0 rfl rfl 0 (by decide) (hts (.fieldLink RX1 12 "WordScales$Days" "shop" "LWordScales$Shop;") (List.mem_of_getElem? (i := 7) rfl)) (fun _ h9 => h9) rfl hnm rfl (tyX1_ok 0 (by decide)) rfl rfl (Nat.le_of_ble_eq_true rfl) dX1_init_12 (fun H locs hP hD hS => ?_)
  have hP : va_P D vwCl (([(h0, .inr (1, [.ref (u3 0), .null, .null, .int 0, .int 0, .int 0, .int 0, .int 0, .int 0, .int 0, .int 0]))] : va_W) ++ (shW K u3 o2.1 o2.2.1 o2.2.2.1 o2.2.2.2.1 o2.2.2.2.2.1 o2.2.2.2.2.2.1 o2.2.2.2.2.2.2.1 o2.2.2.2.2.2.2.2.1 o2.2.2.2.2.2.2.2.2.1 o2.2.2.2.2.2.2.2.2.2.1 o2.2.2.2.2.2.2.2.2.2.2)) H := hP
  have hD : va_D A (([(h0, .inr (1, [.ref (u3 0), .null, .null, .int 0, .int 0, .int 0, .int 0, .int 0, .int 0, .int 0, .int 0]))] : va_W) ++ (shW K u3 o2.1 o2.2.1 o2.2.2.1 o2.2.2.2.1 o2.2.2.2.2.1 o2.2.2.2.2.2.1 o2.2.2.2.2.2.2.1 o2.2.2.2.2.2.2.2.1 o2.2.2.2.2.2.2.2.2.1 o2.2.2.2.2.2.2.2.2.2.1 o2.2.2.2.2.2.2.2.2.2.2)) := hD
  refine lv_aload_n hx hb dX1_init_15 rfl (lv_at hl 0 rfl) ?_
  refine va_new (ci := 0) (fs := [.int 0, .int 0, .int 0, .int 0, .int 0]) (C := RX0) (T := TX0) (N := 5) hx hb hts inX1_init_X0 tyX0 tyX0_ok hown (hts (.classLink RX1 18 RX0) (List.mem_of_getElem? (i := 8) rfl)) (hts (.instantiable RX0 5) (List.mem_of_getElem? (i := 9) rfl)) (hts (.initialized RX0) (List.mem_of_getElem? (i := 10) rfl)) hK hP hD hS hA rfl (fun j hj => by rcases (show j = 0 ∨ j = 1 ∨ j = 2 ∨ j = 3 ∨ j = 4 by omega) with rfl | rfl | rfl | rfl | rfl <;> rfl) (Nat.le_of_ble_eq_true rfl) (Nat.le_of_ble_eq_true rfl) dX1_init_16 (fun q4 H hP hD hS => ?_)
  have hP : va_P D vwCl (([(h0, .inr (1, [.ref (u3 0), .null, .null, .int 0, .int 0, .int 0, .int 0, .int 0, .int 0, .int 0, .int 0]))] : va_W) ++ ((shW K u3 o2.1 o2.2.1 o2.2.2.1 o2.2.2.2.1 o2.2.2.2.2.1 o2.2.2.2.2.2.1 o2.2.2.2.2.2.2.1 o2.2.2.2.2.2.2.2.1 o2.2.2.2.2.2.2.2.2.1 o2.2.2.2.2.2.2.2.2.2.1 o2.2.2.2.2.2.2.2.2.2.2) ++ ([(q4, .inr (0, [.int 0, .int 0, .int 0, .int 0, .int 0]))] : va_W))) H := hP
  have hD : va_D A (([(h0, .inr (1, [.ref (u3 0), .null, .null, .int 0, .int 0, .int 0, .int 0, .int 0, .int 0, .int 0, .int 0]))] : va_W) ++ ((shW K u3 o2.1 o2.2.1 o2.2.2.1 o2.2.2.2.1 o2.2.2.2.2.1 o2.2.2.2.2.2.1 o2.2.2.2.2.2.2.1 o2.2.2.2.2.2.2.2.1 o2.2.2.2.2.2.2.2.2.1 o2.2.2.2.2.2.2.2.2.2.1 o2.2.2.2.2.2.2.2.2.2.2) ++ ([(q4, .inr (0, [.int 0, .int 0, .int 0, .int 0, .int 0]))] : va_W))) := hD
  refine W.widen (k := 11) (n := 86) (Nat.le_of_ble_eq_true rfl) (Nat.le_of_ble_eq_true rfl) ?_
  refine lv_dup hx hb dX1_init_19 rfl ?_
  obtain ⟨o5, ho5, hf⟩ := bd_el hf
  have hPc : va_P D vwCl ([(q4, .inr (0, [.int 0, .int 0, .int 0, .int 0, .int 0]))] : va_W) H := hP.sub [11] rfl
  have hDc : va_D A ([(q4, .inr (0, [.int 0, .int 0, .int 0, .int 0, .int 0]))] : va_W) := hD.sub [11] rfl rfl
  refine kcn_v (D := D) (wr := (([(h0, .inr (1, [.ref (u3 0), .null, .null, .int 0, .int 0, .int 0, .int 0, .int 0, .int 0, .int 0, .int 0]))] : va_W) ++ (shW K u3 o2.1 o2.2.1 o2.2.2.1 o2.2.2.2.1 o2.2.2.2.2.1 o2.2.2.2.2.2.1 o2.2.2.2.2.2.2.1 o2.2.2.2.2.2.2.2.1 o2.2.2.2.2.2.2.2.2.1 o2.2.2.2.2.2.2.2.2.2.1 o2.2.2.2.2.2.2.2.2.2.2))) (va_runIN (As := []) (rest := [.ref q4, .ref h0]) ⟨hx, hb, hml, hown, hts⟩ (k_X0_init l D K q4 o5 ho5 H.size) ⟨va_cnB 0 hts gX1_init_X0_init_n20 rfl rfl rfl (hN _ (List.mem_of_getElem? (i := 30) rfl)) (hts (.initialized RX0) (List.mem_of_getElem? (i := 10) rfl)) yd_X0_init ⟨Nat.le_of_ble_eq_true rfl, Nat.le_of_ble_eq_true rfl⟩, rfl, (hts (.instanceMethod yX0_init) (List.mem_of_getElem? (i := 39) rfl))⟩ (kPreS hPc hDc hK hN) rfl rfl hl.1 rfl (lv_room (Nat.le_of_ble_eq_true rfl)) dX1_init_20 ⟨Nat.le_of_ble_eq_true rfl, Nat.le_of_ble_eq_true rfl⟩) hP hD hS hA [11] [0, 1, 2, 3, 4, 5, 6, 7, 8, 9, 10] rfl rfl (by decide +kernel) (by decide +kernel) (fun u6 Hn locsn hpost hPn hDn hSn => ?_)
  have hP : va_P D vwCl (([(h0, .inr (1, [.ref (u3 0), .null, .null, .int 0, .int 0, .int 0, .int 0, .int 0, .int 0, .int 0, .int 0]))] : va_W) ++ ((shW K u3 o2.1 o2.2.1 o2.2.2.1 o2.2.2.2.1 o2.2.2.2.2.1 o2.2.2.2.2.2.1 o2.2.2.2.2.2.2.1 o2.2.2.2.2.2.2.2.1 o2.2.2.2.2.2.2.2.2.1 o2.2.2.2.2.2.2.2.2.2.1 o2.2.2.2.2.2.2.2.2.2.2) ++ (rdW q4 o5.1 o5.2.1 o5.2.2.1 o5.2.2.2.1 o5.2.2.2.2))) Hn := hPn
  have hD : va_D A (([(h0, .inr (1, [.ref (u3 0), .null, .null, .int 0, .int 0, .int 0, .int 0, .int 0, .int 0, .int 0, .int 0]))] : va_W) ++ ((shW K u3 o2.1 o2.2.1 o2.2.2.1 o2.2.2.2.1 o2.2.2.2.2.1 o2.2.2.2.2.2.1 o2.2.2.2.2.2.2.1 o2.2.2.2.2.2.2.2.1 o2.2.2.2.2.2.2.2.2.1 o2.2.2.2.2.2.2.2.2.2.1 o2.2.2.2.2.2.2.2.2.2.2) ++ (rdW q4 o5.1 o5.2.1 o5.2.2.1 o5.2.2.2.1 o5.2.2.2.2))) := hDn
  have hS := hSn
  clear hPn hDn hSn
  generalize Hn = H at hP hS ⊢
  generalize locsn = locs at hS ⊢
  refine W.widen (k := 11) (n := 86) (Nat.le_of_ble_eq_true rfl) (Nat.le_of_ble_eq_true rfl) ?_
  refine va_putF (D := D) (ci := 1) (v := .ref q4) (ty := tyX1 1) (C := RX1) (T := TX1) (N := 11) hx hb hts inX1_init_X1 tyX1 tyX1_ok nmX1 hown hK hP hD hS 0 rfl rfl 1 (by decide) (hts (.fieldLink RX1 21 "WordScales$Days" "reader" "LWordScales$ActReader;") (List.mem_of_getElem? (i := 11) rfl)) (fun _ h9 => h9) rfl hnm rfl (tyX1_ok 1 (by decide)) rfl rfl (Nat.le_of_ble_eq_true rfl) dX1_init_23 (fun H locs hP hD hS => ?_)
  have hP : va_P D vwCl (([(h0, .inr (1, [.ref (u3 0), .ref q4, .null, .int 0, .int 0, .int 0, .int 0, .int 0, .int 0, .int 0, .int 0]))] : va_W) ++ ((shW K u3 o2.1 o2.2.1 o2.2.2.1 o2.2.2.2.1 o2.2.2.2.2.1 o2.2.2.2.2.2.1 o2.2.2.2.2.2.2.1 o2.2.2.2.2.2.2.2.1 o2.2.2.2.2.2.2.2.2.1 o2.2.2.2.2.2.2.2.2.2.1 o2.2.2.2.2.2.2.2.2.2.2) ++ (rdW q4 o5.1 o5.2.1 o5.2.2.1 o5.2.2.2.1 o5.2.2.2.2))) H := hP
  have hD : va_D A (([(h0, .inr (1, [.ref (u3 0), .ref q4, .null, .int 0, .int 0, .int 0, .int 0, .int 0, .int 0, .int 0, .int 0]))] : va_W) ++ ((shW K u3 o2.1 o2.2.1 o2.2.2.1 o2.2.2.2.1 o2.2.2.2.2.1 o2.2.2.2.2.2.1 o2.2.2.2.2.2.2.1 o2.2.2.2.2.2.2.2.1 o2.2.2.2.2.2.2.2.2.1 o2.2.2.2.2.2.2.2.2.2.1 o2.2.2.2.2.2.2.2.2.2.2) ++ (rdW q4 o5.1 o5.2.1 o5.2.2.1 o5.2.2.2.1 o5.2.2.2.2))) := hD
  refine lv_aload_n hx hb dX1_init_26 rfl (lv_at hl 0 rfl) ?_
  refine va_new (ci := 2) (fs := [.int 0, .int 0]) (C := RX2) (T := TX2) (N := 2) hx hb hts inX1_init_X2 tyX2 tyX2_ok hown (hts (.classLink RX1 25 RX2) (List.mem_of_getElem? (i := 12) rfl)) (hts (.instantiable RX2 2) (List.mem_of_getElem? (i := 13) rfl)) (hts (.initialized RX2) (List.mem_of_getElem? (i := 14) rfl)) hK hP hD hS hA rfl (fun j hj => by rcases (show j = 0 ∨ j = 1 by omega) with rfl | rfl <;> rfl) (Nat.le_of_ble_eq_true rfl) (Nat.le_of_ble_eq_true rfl) dX1_init_27 (fun q7 H hP hD hS => ?_)
  have hP : va_P D vwCl (([(h0, .inr (1, [.ref (u3 0), .ref q4, .null, .int 0, .int 0, .int 0, .int 0, .int 0, .int 0, .int 0, .int 0]))] : va_W) ++ ((shW K u3 o2.1 o2.2.1 o2.2.2.1 o2.2.2.2.1 o2.2.2.2.2.1 o2.2.2.2.2.2.1 o2.2.2.2.2.2.2.1 o2.2.2.2.2.2.2.2.1 o2.2.2.2.2.2.2.2.2.1 o2.2.2.2.2.2.2.2.2.2.1 o2.2.2.2.2.2.2.2.2.2.2) ++ ((rdW q4 o5.1 o5.2.1 o5.2.2.1 o5.2.2.2.1 o5.2.2.2.2) ++ ([(q7, .inr (2, [.int 0, .int 0]))] : va_W)))) H := hP
  have hD : va_D A (([(h0, .inr (1, [.ref (u3 0), .ref q4, .null, .int 0, .int 0, .int 0, .int 0, .int 0, .int 0, .int 0, .int 0]))] : va_W) ++ ((shW K u3 o2.1 o2.2.1 o2.2.2.1 o2.2.2.2.1 o2.2.2.2.2.1 o2.2.2.2.2.2.1 o2.2.2.2.2.2.2.1 o2.2.2.2.2.2.2.2.1 o2.2.2.2.2.2.2.2.2.1 o2.2.2.2.2.2.2.2.2.2.1 o2.2.2.2.2.2.2.2.2.2.2) ++ ((rdW q4 o5.1 o5.2.1 o5.2.2.1 o5.2.2.2.1 o5.2.2.2.2) ++ ([(q7, .inr (2, [.int 0, .int 0]))] : va_W)))) := hD
  refine W.widen (k := 12) (n := 88) (Nat.le_of_ble_eq_true rfl) (Nat.le_of_ble_eq_true rfl) ?_
  refine lv_dup hx hb dX1_init_30 rfl ?_
  obtain ⟨o8, ho8, hf⟩ := bd_el hf
  have hPc : va_P D vwCl ([(q7, .inr (2, [.int 0, .int 0]))] : va_W) H := hP.sub [12] rfl
  have hDc : va_D A ([(q7, .inr (2, [.int 0, .int 0]))] : va_W) := hD.sub [12] rfl rfl
  refine kcn_v (D := D) (wr := (([(h0, .inr (1, [.ref (u3 0), .ref q4, .null, .int 0, .int 0, .int 0, .int 0, .int 0, .int 0, .int 0, .int 0]))] : va_W) ++ ((shW K u3 o2.1 o2.2.1 o2.2.2.1 o2.2.2.2.1 o2.2.2.2.2.1 o2.2.2.2.2.2.1 o2.2.2.2.2.2.2.1 o2.2.2.2.2.2.2.2.1 o2.2.2.2.2.2.2.2.2.1 o2.2.2.2.2.2.2.2.2.2.1 o2.2.2.2.2.2.2.2.2.2.2) ++ (rdW q4 o5.1 o5.2.1 o5.2.2.1 o5.2.2.2.1 o5.2.2.2.2)))) (va_runIN (As := []) (rest := [.ref q7, .ref h0]) ⟨hx, hb, hml, hown, hts⟩ (k_X2_init l D K q7 o8 ho8 H.size) ⟨va_cnB 0 hts gX1_init_X2_init_n27 rfl rfl rfl (hN _ (List.mem_of_getElem? (i := 31) rfl)) (hts (.initialized RX2) (List.mem_of_getElem? (i := 14) rfl)) yd_X2_init ⟨Nat.le_of_ble_eq_true rfl, Nat.le_of_ble_eq_true rfl⟩, rfl, (hts (.instanceMethod yX2_init) (List.mem_of_getElem? (i := 47) rfl))⟩ (kPreS hPc hDc hK hN) rfl rfl hl.1 rfl (lv_room (Nat.le_of_ble_eq_true rfl)) dX1_init_31 ⟨Nat.le_of_ble_eq_true rfl, Nat.le_of_ble_eq_true rfl⟩) hP hD hS hA [12] [0, 1, 2, 3, 4, 5, 6, 7, 8, 9, 10, 11] rfl rfl (by decide +kernel) (by decide +kernel) (fun u9 Hn locsn hpost hPn hDn hSn => ?_)
  have hP : va_P D vwCl (([(h0, .inr (1, [.ref (u3 0), .ref q4, .null, .int 0, .int 0, .int 0, .int 0, .int 0, .int 0, .int 0, .int 0]))] : va_W) ++ ((shW K u3 o2.1 o2.2.1 o2.2.2.1 o2.2.2.2.1 o2.2.2.2.2.1 o2.2.2.2.2.2.1 o2.2.2.2.2.2.2.1 o2.2.2.2.2.2.2.2.1 o2.2.2.2.2.2.2.2.2.1 o2.2.2.2.2.2.2.2.2.2.1 o2.2.2.2.2.2.2.2.2.2.2) ++ ((rdW q4 o5.1 o5.2.1 o5.2.2.1 o5.2.2.2.1 o5.2.2.2.2) ++ (rwW q7 o8.1 o8.2)))) Hn := hPn
  have hD : va_D A (([(h0, .inr (1, [.ref (u3 0), .ref q4, .null, .int 0, .int 0, .int 0, .int 0, .int 0, .int 0, .int 0, .int 0]))] : va_W) ++ ((shW K u3 o2.1 o2.2.1 o2.2.2.1 o2.2.2.2.1 o2.2.2.2.2.1 o2.2.2.2.2.2.1 o2.2.2.2.2.2.2.1 o2.2.2.2.2.2.2.2.1 o2.2.2.2.2.2.2.2.2.1 o2.2.2.2.2.2.2.2.2.2.1 o2.2.2.2.2.2.2.2.2.2.2) ++ ((rdW q4 o5.1 o5.2.1 o5.2.2.1 o5.2.2.2.1 o5.2.2.2.2) ++ (rwW q7 o8.1 o8.2)))) := hDn
  have hS := hSn
  clear hPn hDn hSn
  generalize Hn = H at hP hS ⊢
  generalize locsn = locs at hS ⊢
  refine W.widen (k := 12) (n := 88) (Nat.le_of_ble_eq_true rfl) (Nat.le_of_ble_eq_true rfl) ?_
  refine va_putF (D := D) (ci := 1) (v := .ref q7) (ty := tyX1 2) (C := RX1) (T := TX1) (N := 11) hx hb hts inX1_init_X1 tyX1 tyX1_ok nmX1 hown hK hP hD hS 0 rfl rfl 2 (by decide) (hts (.fieldLink RX1 28 "WordScales$Days" "row" "LWordScales$Row;") (List.mem_of_getElem? (i := 15) rfl)) (fun _ h9 => h9) rfl hnm rfl (tyX1_ok 2 (by decide)) rfl rfl (Nat.le_of_ble_eq_true rfl) dX1_init_34 (fun H locs hP hD hS => ?_)
  have hP : va_P D vwCl (([(h0, .inr (1, [.ref (u3 0), .ref q4, .ref q7, .int 0, .int 0, .int 0, .int 0, .int 0, .int 0, .int 0, .int 0]))] : va_W) ++ ((shW K u3 o2.1 o2.2.1 o2.2.2.1 o2.2.2.2.1 o2.2.2.2.2.1 o2.2.2.2.2.2.1 o2.2.2.2.2.2.2.1 o2.2.2.2.2.2.2.2.1 o2.2.2.2.2.2.2.2.2.1 o2.2.2.2.2.2.2.2.2.2.1 o2.2.2.2.2.2.2.2.2.2.2) ++ ((rdW q4 o5.1 o5.2.1 o5.2.2.1 o5.2.2.2.1 o5.2.2.2.2) ++ (rwW q7 o8.1 o8.2)))) H := hP
  have hD : va_D A (([(h0, .inr (1, [.ref (u3 0), .ref q4, .ref q7, .int 0, .int 0, .int 0, .int 0, .int 0, .int 0, .int 0, .int 0]))] : va_W) ++ ((shW K u3 o2.1 o2.2.1 o2.2.2.1 o2.2.2.2.1 o2.2.2.2.2.1 o2.2.2.2.2.2.1 o2.2.2.2.2.2.2.1 o2.2.2.2.2.2.2.2.1 o2.2.2.2.2.2.2.2.2.1 o2.2.2.2.2.2.2.2.2.2.1 o2.2.2.2.2.2.2.2.2.2.2) ++ ((rdW q4 o5.1 o5.2.1 o5.2.2.1 o5.2.2.2.1 o5.2.2.2.2) ++ (rwW q7 o8.1 o8.2)))) := hD
  refine lv_aload_n hx hb dX1_init_37 rfl (lv_at hl 0 rfl) ?_
  refine lv_iconst (v := 0) hx hb dX1_init_38 (by decide) ?_
  refine va_put (D := D) (ci := 1) (v := .int 0) (ty := tyX1 3) (C := RX1) (T := TX1) (N := 11) hx hb hts inX1_init_X1 tyX1 tyX1_ok nmX1 hown hK hP hD hS 0 rfl rfl 3 (by decide) (hts (.fieldLink RX1 32 "WordScales$Days" "faultPlace" "I") (List.mem_of_getElem? (i := 16) rfl)) (fun _ h9 => h9) rfl (tyX1_ok 3 (by decide)) rfl rfl (Nat.le_of_ble_eq_true rfl) dX1_init_39 (fun H locs hP hD hS => ?_)
  have hP : va_P D vwCl (([(h0, .inr (1, [.ref (u3 0), .ref q4, .ref q7, .int 0, .int 0, .int 0, .int 0, .int 0, .int 0, .int 0, .int 0]))] : va_W) ++ ((shW K u3 o2.1 o2.2.1 o2.2.2.1 o2.2.2.2.1 o2.2.2.2.2.1 o2.2.2.2.2.2.1 o2.2.2.2.2.2.2.1 o2.2.2.2.2.2.2.2.1 o2.2.2.2.2.2.2.2.2.1 o2.2.2.2.2.2.2.2.2.2.1 o2.2.2.2.2.2.2.2.2.2.2) ++ ((rdW q4 o5.1 o5.2.1 o5.2.2.1 o5.2.2.2.1 o5.2.2.2.2) ++ (rwW q7 o8.1 o8.2)))) H := hP
  have hD : va_D A (([(h0, .inr (1, [.ref (u3 0), .ref q4, .ref q7, .int 0, .int 0, .int 0, .int 0, .int 0, .int 0, .int 0, .int 0]))] : va_W) ++ ((shW K u3 o2.1 o2.2.1 o2.2.2.1 o2.2.2.2.1 o2.2.2.2.2.1 o2.2.2.2.2.2.1 o2.2.2.2.2.2.2.1 o2.2.2.2.2.2.2.2.1 o2.2.2.2.2.2.2.2.2.1 o2.2.2.2.2.2.2.2.2.2.1 o2.2.2.2.2.2.2.2.2.2.2) ++ ((rdW q4 o5.1 o5.2.1 o5.2.2.1 o5.2.2.2.1 o5.2.2.2.2) ++ (rwW q7 o8.1 o8.2)))) := hD
  refine lv_aload_n hx hb dX1_init_42 rfl (lv_at hl 0 rfl) ?_
  refine lv_iconst (v := 0) hx hb dX1_init_43 (by decide) ?_
  refine va_put (D := D) (ci := 1) (v := .int 0) (ty := tyX1 4) (C := RX1) (T := TX1) (N := 11) hx hb hts inX1_init_X1 tyX1 tyX1_ok nmX1 hown hK hP hD hS 0 rfl rfl 4 (by decide) (hts (.fieldLink RX1 36 "WordScales$Days" "acts" "I") (List.mem_of_getElem? (i := 17) rfl)) (fun _ h9 => h9) rfl (tyX1_ok 4 (by decide)) rfl rfl (Nat.le_of_ble_eq_true rfl) dX1_init_44 (fun H locs hP hD hS => ?_)
  have hP : va_P D vwCl (([(h0, .inr (1, [.ref (u3 0), .ref q4, .ref q7, .int 0, .int 0, .int 0, .int 0, .int 0, .int 0, .int 0, .int 0]))] : va_W) ++ ((shW K u3 o2.1 o2.2.1 o2.2.2.1 o2.2.2.2.1 o2.2.2.2.2.1 o2.2.2.2.2.2.1 o2.2.2.2.2.2.2.1 o2.2.2.2.2.2.2.2.1 o2.2.2.2.2.2.2.2.2.1 o2.2.2.2.2.2.2.2.2.2.1 o2.2.2.2.2.2.2.2.2.2.2) ++ ((rdW q4 o5.1 o5.2.1 o5.2.2.1 o5.2.2.2.1 o5.2.2.2.2) ++ (rwW q7 o8.1 o8.2)))) H := hP
  have hD : va_D A (([(h0, .inr (1, [.ref (u3 0), .ref q4, .ref q7, .int 0, .int 0, .int 0, .int 0, .int 0, .int 0, .int 0, .int 0]))] : va_W) ++ ((shW K u3 o2.1 o2.2.1 o2.2.2.1 o2.2.2.2.1 o2.2.2.2.2.1 o2.2.2.2.2.2.1 o2.2.2.2.2.2.2.1 o2.2.2.2.2.2.2.2.1 o2.2.2.2.2.2.2.2.2.1 o2.2.2.2.2.2.2.2.2.2.1 o2.2.2.2.2.2.2.2.2.2.2) ++ ((rdW q4 o5.1 o5.2.1 o5.2.2.1 o5.2.2.2.1 o5.2.2.2.2) ++ (rwW q7 o8.1 o8.2)))) := hD
  refine lv_aload_n hx hb dX1_init_47 rfl (lv_at hl 0 rfl) ?_
  refine lv_iconst (v := 0) hx hb dX1_init_48 (by decide) ?_
  refine va_put (D := D) (ci := 1) (v := .int 0) (ty := tyX1 5) (C := RX1) (T := TX1) (N := 11) hx hb hts inX1_init_X1 tyX1 tyX1_ok nmX1 hown hK hP hD hS 0 rfl rfl 5 (by decide) (hts (.fieldLink RX1 39 "WordScales$Days" "badAct" "I") (List.mem_of_getElem? (i := 18) rfl)) (fun _ h9 => h9) rfl (tyX1_ok 5 (by decide)) rfl rfl (Nat.le_of_ble_eq_true rfl) dX1_init_49 (fun H locs hP hD hS => ?_)
  have hP : va_P D vwCl (([(h0, .inr (1, [.ref (u3 0), .ref q4, .ref q7, .int 0, .int 0, .int 0, .int 0, .int 0, .int 0, .int 0, .int 0]))] : va_W) ++ ((shW K u3 o2.1 o2.2.1 o2.2.2.1 o2.2.2.2.1 o2.2.2.2.2.1 o2.2.2.2.2.2.1 o2.2.2.2.2.2.2.1 o2.2.2.2.2.2.2.2.1 o2.2.2.2.2.2.2.2.2.1 o2.2.2.2.2.2.2.2.2.2.1 o2.2.2.2.2.2.2.2.2.2.2) ++ ((rdW q4 o5.1 o5.2.1 o5.2.2.1 o5.2.2.2.1 o5.2.2.2.2) ++ (rwW q7 o8.1 o8.2)))) H := hP
  have hD : va_D A (([(h0, .inr (1, [.ref (u3 0), .ref q4, .ref q7, .int 0, .int 0, .int 0, .int 0, .int 0, .int 0, .int 0, .int 0]))] : va_W) ++ ((shW K u3 o2.1 o2.2.1 o2.2.2.1 o2.2.2.2.1 o2.2.2.2.2.1 o2.2.2.2.2.2.1 o2.2.2.2.2.2.2.1 o2.2.2.2.2.2.2.2.1 o2.2.2.2.2.2.2.2.2.1 o2.2.2.2.2.2.2.2.2.2.1 o2.2.2.2.2.2.2.2.2.2.2) ++ ((rdW q4 o5.1 o5.2.1 o5.2.2.1 o5.2.2.2.1 o5.2.2.2.2) ++ (rwW q7 o8.1 o8.2)))) := hD
  refine lv_aload_n hx hb dX1_init_52 rfl (lv_at hl 0 rfl) ?_
  refine lv_iconst (v := 0) hx hb dX1_init_53 (by decide) ?_
  refine va_put (D := D) (ci := 1) (v := .int 0) (ty := tyX1 6) (C := RX1) (T := TX1) (N := 11) hx hb hts inX1_init_X1 tyX1 tyX1_ok nmX1 hown hK hP hD hS 0 rfl rfl 6 (by decide) (hts (.fieldLink RX1 42 "WordScales$Days" "why" "I") (List.mem_of_getElem? (i := 19) rfl)) (fun _ h9 => h9) rfl (tyX1_ok 6 (by decide)) rfl rfl (Nat.le_of_ble_eq_true rfl) dX1_init_54 (fun H locs hP hD hS => ?_)
  have hP : va_P D vwCl (([(h0, .inr (1, [.ref (u3 0), .ref q4, .ref q7, .int 0, .int 0, .int 0, .int 0, .int 0, .int 0, .int 0, .int 0]))] : va_W) ++ ((shW K u3 o2.1 o2.2.1 o2.2.2.1 o2.2.2.2.1 o2.2.2.2.2.1 o2.2.2.2.2.2.1 o2.2.2.2.2.2.2.1 o2.2.2.2.2.2.2.2.1 o2.2.2.2.2.2.2.2.2.1 o2.2.2.2.2.2.2.2.2.2.1 o2.2.2.2.2.2.2.2.2.2.2) ++ ((rdW q4 o5.1 o5.2.1 o5.2.2.1 o5.2.2.2.1 o5.2.2.2.2) ++ (rwW q7 o8.1 o8.2)))) H := hP
  have hD : va_D A (([(h0, .inr (1, [.ref (u3 0), .ref q4, .ref q7, .int 0, .int 0, .int 0, .int 0, .int 0, .int 0, .int 0, .int 0]))] : va_W) ++ ((shW K u3 o2.1 o2.2.1 o2.2.2.1 o2.2.2.2.1 o2.2.2.2.2.1 o2.2.2.2.2.2.1 o2.2.2.2.2.2.2.1 o2.2.2.2.2.2.2.2.1 o2.2.2.2.2.2.2.2.2.1 o2.2.2.2.2.2.2.2.2.2.1 o2.2.2.2.2.2.2.2.2.2.2) ++ ((rdW q4 o5.1 o5.2.1 o5.2.2.1 o5.2.2.2.1 o5.2.2.2.2) ++ (rwW q7 o8.1 o8.2)))) := hD
  refine lv_aload_n hx hb dX1_init_57 rfl (lv_at hl 0 rfl) ?_
  refine lv_iconst (v := 0) hx hb dX1_init_58 (by decide) ?_
  refine va_put (D := D) (ci := 1) (v := .int 0) (ty := tyX1 7) (C := RX1) (T := TX1) (N := 11) hx hb hts inX1_init_X1 tyX1 tyX1_ok nmX1 hown hK hP hD hS 0 rfl rfl 7 (by decide) (hts (.fieldLink RX1 45 "WordScales$Days" "sentences" "I") (List.mem_of_getElem? (i := 20) rfl)) (fun _ h9 => h9) rfl (tyX1_ok 7 (by decide)) rfl rfl (Nat.le_of_ble_eq_true rfl) dX1_init_59 (fun H locs hP hD hS => ?_)
  have hP : va_P D vwCl (([(h0, .inr (1, [.ref (u3 0), .ref q4, .ref q7, .int 0, .int 0, .int 0, .int 0, .int 0, .int 0, .int 0, .int 0]))] : va_W) ++ ((shW K u3 o2.1 o2.2.1 o2.2.2.1 o2.2.2.2.1 o2.2.2.2.2.1 o2.2.2.2.2.2.1 o2.2.2.2.2.2.2.1 o2.2.2.2.2.2.2.2.1 o2.2.2.2.2.2.2.2.2.1 o2.2.2.2.2.2.2.2.2.2.1 o2.2.2.2.2.2.2.2.2.2.2) ++ ((rdW q4 o5.1 o5.2.1 o5.2.2.1 o5.2.2.2.1 o5.2.2.2.2) ++ (rwW q7 o8.1 o8.2)))) H := hP
  have hD : va_D A (([(h0, .inr (1, [.ref (u3 0), .ref q4, .ref q7, .int 0, .int 0, .int 0, .int 0, .int 0, .int 0, .int 0, .int 0]))] : va_W) ++ ((shW K u3 o2.1 o2.2.1 o2.2.2.1 o2.2.2.2.1 o2.2.2.2.2.1 o2.2.2.2.2.2.1 o2.2.2.2.2.2.2.1 o2.2.2.2.2.2.2.2.1 o2.2.2.2.2.2.2.2.2.1 o2.2.2.2.2.2.2.2.2.2.1 o2.2.2.2.2.2.2.2.2.2.2) ++ ((rdW q4 o5.1 o5.2.1 o5.2.2.1 o5.2.2.2.1 o5.2.2.2.2) ++ (rwW q7 o8.1 o8.2)))) := hD
  refine lv_aload_n hx hb dX1_init_62 rfl (lv_at hl 0 rfl) ?_
  refine lv_iconst (v := 0) hx hb dX1_init_63 (by decide) ?_
  refine va_put (D := D) (ci := 1) (v := .int 0) (ty := tyX1 8) (C := RX1) (T := TX1) (N := 11) hx hb hts inX1_init_X1 tyX1 tyX1_ok nmX1 hown hK hP hD hS 0 rfl rfl 8 (by decide) (hts (.fieldLink RX1 48 "WordScales$Days" "spoken" "I") (List.mem_of_getElem? (i := 21) rfl)) (fun _ h9 => h9) rfl (tyX1_ok 8 (by decide)) rfl rfl (Nat.le_of_ble_eq_true rfl) dX1_init_64 (fun H locs hP hD hS => ?_)
  have hP : va_P D vwCl (([(h0, .inr (1, [.ref (u3 0), .ref q4, .ref q7, .int 0, .int 0, .int 0, .int 0, .int 0, .int 0, .int 0, .int 0]))] : va_W) ++ ((shW K u3 o2.1 o2.2.1 o2.2.2.1 o2.2.2.2.1 o2.2.2.2.2.1 o2.2.2.2.2.2.1 o2.2.2.2.2.2.2.1 o2.2.2.2.2.2.2.2.1 o2.2.2.2.2.2.2.2.2.1 o2.2.2.2.2.2.2.2.2.2.1 o2.2.2.2.2.2.2.2.2.2.2) ++ ((rdW q4 o5.1 o5.2.1 o5.2.2.1 o5.2.2.2.1 o5.2.2.2.2) ++ (rwW q7 o8.1 o8.2)))) H := hP
  have hD : va_D A (([(h0, .inr (1, [.ref (u3 0), .ref q4, .ref q7, .int 0, .int 0, .int 0, .int 0, .int 0, .int 0, .int 0, .int 0]))] : va_W) ++ ((shW K u3 o2.1 o2.2.1 o2.2.2.1 o2.2.2.2.1 o2.2.2.2.2.1 o2.2.2.2.2.2.1 o2.2.2.2.2.2.2.1 o2.2.2.2.2.2.2.2.1 o2.2.2.2.2.2.2.2.2.1 o2.2.2.2.2.2.2.2.2.2.1 o2.2.2.2.2.2.2.2.2.2.2) ++ ((rdW q4 o5.1 o5.2.1 o5.2.2.1 o5.2.2.2.1 o5.2.2.2.2) ++ (rwW q7 o8.1 o8.2)))) := hD
  refine lv_aload_n hx hb dX1_init_67 rfl (lv_at hl 0 rfl) ?_
  refine lv_bipush (v := (-6)) hx hb dX1_init_68 (by decide) ?_
  refine va_put (D := D) (ci := 1) (v := .int (-6)) (ty := tyX1 9) (C := RX1) (T := TX1) (N := 11) hx hb hts inX1_init_X1 tyX1 tyX1_ok nmX1 hown hK hP hD hS 0 rfl rfl 9 (by decide) (hts (.fieldLink RX1 51 "WordScales$Days" "heaviest" "I") (List.mem_of_getElem? (i := 22) rfl)) (fun _ h9 => h9) rfl (tyX1_ok 9 (by decide)) rfl rfl (Nat.le_of_ble_eq_true rfl) dX1_init_70 (fun H locs hP hD hS => ?_)
  have hP : va_P D vwCl (([(h0, .inr (1, [.ref (u3 0), .ref q4, .ref q7, .int 0, .int 0, .int 0, .int 0, .int 0, .int 0, .int (-6), .int 0]))] : va_W) ++ ((shW K u3 o2.1 o2.2.1 o2.2.2.1 o2.2.2.2.1 o2.2.2.2.2.1 o2.2.2.2.2.2.1 o2.2.2.2.2.2.2.1 o2.2.2.2.2.2.2.2.1 o2.2.2.2.2.2.2.2.2.1 o2.2.2.2.2.2.2.2.2.2.1 o2.2.2.2.2.2.2.2.2.2.2) ++ ((rdW q4 o5.1 o5.2.1 o5.2.2.1 o5.2.2.2.1 o5.2.2.2.2) ++ (rwW q7 o8.1 o8.2)))) H := hP
  have hD : va_D A (([(h0, .inr (1, [.ref (u3 0), .ref q4, .ref q7, .int 0, .int 0, .int 0, .int 0, .int 0, .int 0, .int (-6), .int 0]))] : va_W) ++ ((shW K u3 o2.1 o2.2.1 o2.2.2.1 o2.2.2.2.1 o2.2.2.2.2.1 o2.2.2.2.2.2.1 o2.2.2.2.2.2.2.1 o2.2.2.2.2.2.2.2.1 o2.2.2.2.2.2.2.2.2.1 o2.2.2.2.2.2.2.2.2.2.1 o2.2.2.2.2.2.2.2.2.2.2) ++ ((rdW q4 o5.1 o5.2.1 o5.2.2.1 o5.2.2.2.1 o5.2.2.2.2) ++ (rwW q7 o8.1 o8.2)))) := hD
  refine lv_aload_n hx hb dX1_init_73 rfl (lv_at hl 0 rfl) ?_
  refine lv_iconst (v := (-1)) hx hb dX1_init_74 (by decide) ?_
  refine va_put (D := D) (ci := 1) (v := .int (-1)) (ty := tyX1 10) (C := RX1) (T := TX1) (N := 11) hx hb hts inX1_init_X1 tyX1 tyX1_ok nmX1 hown hK hP hD hS 0 rfl rfl 10 (by decide) (hts (.fieldLink RX1 54 "WordScales$Days" "heaviestWeight" "I") (List.mem_of_getElem? (i := 23) rfl)) (fun _ h9 => h9) rfl (tyX1_ok 10 (by decide)) rfl rfl (Nat.le_of_ble_eq_true rfl) dX1_init_75 (fun H locs hP hD hS => ?_)
  have hP : va_P D vwCl (([(h0, .inr (1, [.ref (u3 0), .ref q4, .ref q7, .int 0, .int 0, .int 0, .int 0, .int 0, .int 0, .int (-6), .int (-1)]))] : va_W) ++ ((shW K u3 o2.1 o2.2.1 o2.2.2.1 o2.2.2.2.1 o2.2.2.2.2.1 o2.2.2.2.2.2.1 o2.2.2.2.2.2.2.1 o2.2.2.2.2.2.2.2.1 o2.2.2.2.2.2.2.2.2.1 o2.2.2.2.2.2.2.2.2.2.1 o2.2.2.2.2.2.2.2.2.2.2) ++ ((rdW q4 o5.1 o5.2.1 o5.2.2.1 o5.2.2.2.1 o5.2.2.2.2) ++ (rwW q7 o8.1 o8.2)))) H := hP
  have hD : va_D A (([(h0, .inr (1, [.ref (u3 0), .ref q4, .ref q7, .int 0, .int 0, .int 0, .int 0, .int 0, .int 0, .int (-6), .int (-1)]))] : va_W) ++ ((shW K u3 o2.1 o2.2.1 o2.2.2.1 o2.2.2.2.1 o2.2.2.2.2.1 o2.2.2.2.2.2.1 o2.2.2.2.2.2.2.1 o2.2.2.2.2.2.2.2.1 o2.2.2.2.2.2.2.2.2.1 o2.2.2.2.2.2.2.2.2.2.1 o2.2.2.2.2.2.2.2.2.2.2) ++ ((rdW q4 o5.1 o5.2.1 o5.2.2.1 o5.2.2.2.1 o5.2.2.2.2) ++ (rwW q7 o8.1 o8.2)))) := hD
  obtain rfl := Option.some.inj hf
  exact hret (q4, q7, u3) trivial rfl hP hD hS dX1_init_78
