def f_X4_image_out (p0 : Int32) : Int32 := bd (f_X4_isWithin p0 (0) (1)) (fun o1 => (-2))
theorem yd_X4_image : yX4_image.cls ≠ "java/lang/invoke/MethodHandle" ∧ yX4_image.cls ≠ "java/lang/invoke/VarHandle" ∧ (parseMethodDescriptor yX4_image.desc).map (fun d => d.parameters.length) = some 1 := by decide +kernel
abbrev rmX4_image_out : Room := { frames := 1, cells := 0, slots := 0, locals := 22 }
set_option maxHeartbeats 4000000 in
set_option maxRecDepth 100000 in
theorem k_X4_image_out (l : Launch) (D : va_G) (K : Nat → ClassId) (ax : Nat) (zshop : Nat) (zyearShop : Nat) (zimages : Nat) (zsigns : Nat) (zdays : Nat) (zmeans : Nat) (vsgc : Int32) (p0 : Int32) (out : Int32) (hin : f_X4_isWithin p0 0 1 = 0) (hf : f_X4_image_out p0 = out) : kI l D K .int yX4_image wsX4_image rmX4_image_out [.ref ax, .int p0] (xoW ax zshop zyearShop zimages zsigns zdays zmeans vsgc) out (xoW ax zshop zyearShop zimages zsigns zdays zmeans vsgc) := by
  refine kI.of (cc := cX4_image) (maxL := 3) (by decide) rfl (Nat.le_of_ble_eq_true rfl) ?_
  intro p e s m args below meth c A H0 Q ls hx hb hml hown hts hK hN hA hP hD hS hl hret
  have hown : s.vm.findClass RX4 = some m.cls := hown
  have hl : lv_has ls 3 [(0, .ref ax), (1, .int p0)] := hl
  generalize hH : H0 = H at hP ⊢
  have hS : va_S A H0 H [] := by rw [← hH]; exact hS
  clear hH
  unfold f_X4_image_out at hf
  refine lv_iload_n hx hb dX4_image_0 rfl (lv_at hl 1 rfl) ?_
  refine lv_iconst (v := 0) hx hb dX4_image_1 (by decide) ?_
  refine lv_iconst (v := 1) hx hb dX4_image_2 (by decide) ?_
  obtain ⟨o1, ho1, hf⟩ := bd_el hf
  refine kc0_i (D := D) (va_runS (As := [.int p0, .int 0, .int 1]) (rest := []) ⟨hx, hb, hml, hown, hts⟩ ((k_X4_isWithin l D K p0 (0) (1) o1 ho1) H.size) (va_cwS 3 hts gX4_image_X4_isWithin rfl rfl rfl yd_X4_isWithin ⟨Nat.le_of_ble_eq_true rfl, Nat.le_of_ble_eq_true rfl⟩) (kPreS va_P_nil (va_D_nil (A := fun _ => True)) hK hN) rfl rfl hl.1 rfl (lv_room (Nat.le_of_ble_eq_true rfl)) dX4_image_3 ⟨Nat.le_of_ble_eq_true rfl, Nat.le_of_ble_eq_true rfl⟩) hP hS hA (fun hzo1 H locs hP hS => ?_)
  have hno : o1 = 0 := ho1.symm.trans hin
  refine lv_if_ne (tgt := 12) hx hb dX4_image_6 (by decide) (fun c2 => ?_) (fun c2 => ?_)
  · exact absurd hno c2
  · skip
    refine lv_bipush (v := (-2)) hx hb dX4_image_9 (by decide) ?_
    subst hf
    exact hret rfl rfl rfl hP hD hS dX4_image_11
def f_X4_restore_out (p0 : Int32) : Int32 := bd (f_X4_isWithin p0 (0) (1)) (fun o1 => (-2))
theorem yd_X4_restore : yX4_restore.cls ≠ "java/lang/invoke/MethodHandle" ∧ yX4_restore.cls ≠ "java/lang/invoke/VarHandle" ∧ (parseMethodDescriptor yX4_restore.desc).map (fun d => d.parameters.length) = some 1 := by decide +kernel
abbrev rmX4_restore_out : Room := { frames := 1, cells := 0, slots := 0, locals := 22 }
set_option maxHeartbeats 4000000 in
set_option maxRecDepth 100000 in
theorem k_X4_restore_out (l : Launch) (D : va_G) (K : Nat → ClassId) (ax : Nat) (zshop : Nat) (zyearShop : Nat) (zimages : Nat) (zsigns : Nat) (zdays : Nat) (zmeans : Nat) (vsgc : Int32) (p0 : Int32) (out : Int32) (hin : f_X4_isWithin p0 0 1 = 0) (hf : f_X4_restore_out p0 = out) : kI l D K .int yX4_restore wsX4_restore rmX4_restore_out [.ref ax, .int p0] (xoW ax zshop zyearShop zimages zsigns zdays zmeans vsgc) out (xoW ax zshop zyearShop zimages zsigns zdays zmeans vsgc) := by
  refine kI.of (cc := cX4_restore) (maxL := 3) (by decide) rfl (Nat.le_of_ble_eq_true rfl) ?_
  intro p e s m args below meth c A H0 Q ls hx hb hml hown hts hK hN hA hP hD hS hl hret
  have hown : s.vm.findClass RX4 = some m.cls := hown
  have hl : lv_has ls 3 [(0, .ref ax), (1, .int p0)] := hl
  generalize hH : H0 = H at hP ⊢
  have hS : va_S A H0 H [] := by rw [← hH]; exact hS
  clear hH
  unfold f_X4_restore_out at hf
  refine lv_iload_n hx hb dX4_restore_0 rfl (lv_at hl 1 rfl) ?_
  refine lv_iconst (v := 0) hx hb dX4_restore_1 (by decide) ?_
  refine lv_iconst (v := 1) hx hb dX4_restore_2 (by decide) ?_
  obtain ⟨o1, ho1, hf⟩ := bd_el hf
  refine kc0_i (D := D) (va_runS (As := [.int p0, .int 0, .int 1]) (rest := []) ⟨hx, hb, hml, hown, hts⟩ ((k_X4_isWithin l D K p0 (0) (1) o1 ho1) H.size) (va_cwS 3 hts gX4_restore_X4_isWithin rfl rfl rfl yd_X4_isWithin ⟨Nat.le_of_ble_eq_true rfl, Nat.le_of_ble_eq_true rfl⟩) (kPreS va_P_nil (va_D_nil (A := fun _ => True)) hK hN) rfl rfl hl.1 rfl (lv_room (Nat.le_of_ble_eq_true rfl)) dX4_restore_3 ⟨Nat.le_of_ble_eq_true rfl, Nat.le_of_ble_eq_true rfl⟩) hP hS hA (fun hzo1 H locs hP hS => ?_)
  have hno : o1 = 0 := ho1.symm.trans hin
  refine lv_if_ne (tgt := 12) hx hb dX4_restore_6 (by decide) (fun c2 => ?_) (fun c2 => ?_)
  · exact absurd hno c2
  · skip
    refine lv_bipush (v := (-2)) hx hb dX4_restore_9 (by decide) ?_
    subst hf
    exact hret rfl rfl rfl hP hD hS dX4_restore_11
def f_X4_image_old (vw : Nat → Int32) (vk : Nat → Int32) (vr : Nat → Int32) (vp : Nat → Int32) (vb : Nat → Int32) (vi : Nat → Int32) (vwc : Int32) (vl : Nat → Int32) (vg : Nat → Int32) (vo : Nat → Int32) (vsc : Int32) (vwk : Nat → Int32) (vkk : Nat → Int32) (vrk : Nat → Int32) (vpk : Nat → Int32) (vbk : Nat → Int32) (vik : Nat → Int32) (vwck : Int32) (vlk : Nat → Int32) (vgk : Nat → Int32) (vok : Nat → Int32) (vsck : Int32) (p0 : Int32) : Option (Int32 × (Nat → Int32) × (Nat → Int32) × (Nat → Int32) × (Nat → Int32) × (Nat → Int32) × (Nat → Int32) × Int32 × (Nat → Int32) × (Nat → Int32) × (Nat → Int32) × Int32) := bd (f_X4_isWithin p0 (0) (1)) (fun o1 => if o1 = 0 then (some ((-2), vwk, vkk, vrk, vpk, vbk, vik, vwck, vlk, vgk, vok, vsck)) else (chk p0 2 (ob (f_X3_copyFrom vwk vkk vrk vpk vbk vik vlk vgk vok vw vk vr vp vb vi vwc vl vg vo vsc) (fun o4 => some (1, o4.1, o4.2.1, o4.2.2.1, o4.2.2.2.1, o4.2.2.2.2.1, o4.2.2.2.2.2.1, o4.2.2.2.2.2.2.1, o4.2.2.2.2.2.2.2.1, o4.2.2.2.2.2.2.2.2.1, o4.2.2.2.2.2.2.2.2.2.1, o4.2.2.2.2.2.2.2.2.2.2)))))
theorem inX4_image_X4 : ∀ w ∈ wsX40, w ∈ wsX4_image := fun w h => List.mem_cons_of_mem _ (List.mem_append_left _ (List.mem_append_right _ h))
abbrev rmX4_image_old : Room := { frames := 2, cells := 0, slots := 0, locals := 43 }
set_option maxHeartbeats 4000000 in
set_option maxRecDepth 100000 in
theorem k_X4_image_old (l : Launch) (D : va_G) (K : Nat → ClassId) (ax : Nat) (am : Nat) (q : Nat → Nat) (qk : Nat → Nat) (zyearShop : Nat) (zsigns : Nat) (zdays : Nat) (zmeans : Nat) (vsgc : Int32) (vf : Nat → Option Nat) (vw : Nat → Int32) (vk : Nat → Int32) (vr : Nat → Int32) (vp : Nat → Int32) (vb : Nat → Int32) (vi : Nat → Int32) (vwc : Int32) (vl : Nat → Int32) (vg : Nat → Int32) (vo : Nat → Int32) (vsc : Int32) (vwk : Nat → Int32) (vkk : Nat → Int32) (vrk : Nat → Int32) (vpk : Nat → Int32) (vbk : Nat → Int32) (vik : Nat → Int32) (vwck : Int32) (vlk : Nat → Int32) (vgk : Nat → Int32) (vok : Nat → Int32) (vsck : Int32) (p0 : Int32) (out : Int32 × (Nat → Int32) × (Nat → Int32) × (Nat → Int32) × (Nat → Int32) × (Nat → Int32) × (Nat → Int32) × Int32 × (Nat → Int32) × (Nat → Int32) × (Nat → Int32) × Int32) (hfi : vf (p0).toNatClampNeg = some (qk 0)) (hf : f_X4_image_old vw vk vr vp vb vi vwc vl vg vo vsc vwk vkk vrk vpk vbk vik vwck vlk vgk vok vsck p0 = some out) : kI l D K .int yX4_image wsX4_image rmX4_image_old [.ref ax, .int p0] ((xoW ax (q 0) zyearShop am zsigns zdays zmeans vsgc) ++ (imW K am vf) ++ (shW K q vw vk vr vp vb vi vwc vl vg vo vsc) ++ (shW K qk vwk vkk vrk vpk vbk vik vwck vlk vgk vok vsck)) out.1 ((xoW ax (q 0) zyearShop am zsigns zdays zmeans vsgc) ++ (imW K am vf) ++ (shW K q vw vk vr vp vb vi vwc vl vg vo vsc) ++ (shW K qk out.2.1 out.2.2.1 out.2.2.2.1 out.2.2.2.2.1 out.2.2.2.2.2.1 out.2.2.2.2.2.2.1 out.2.2.2.2.2.2.2.1 out.2.2.2.2.2.2.2.2.1 out.2.2.2.2.2.2.2.2.2.1 out.2.2.2.2.2.2.2.2.2.2.1 out.2.2.2.2.2.2.2.2.2.2.2)) := by
  refine kI.of (cc := cX4_image) (maxL := 3) (by decide) rfl (Nat.le_of_ble_eq_true rfl) ?_
  intro p e s m args below meth c A H0 Q ls hx hb hml hown hts hK hN hA hP hD hS hl hret
  have hown : s.vm.findClass RX4 = some m.cls := hown
  have hl : lv_has ls 3 [(0, .ref ax), (1, .int p0)] := hl
  generalize hH : H0 = H at hP ⊢
  have hS : va_S A H0 H [] := by rw [← hH]; exact hS
  clear hH
  unfold f_X4_image_old at hf
  refine lv_iload_n hx hb dX4_image_0 rfl (lv_at hl 1 rfl) ?_
  refine lv_iconst (v := 0) hx hb dX4_image_1 (by decide) ?_
  refine lv_iconst (v := 1) hx hb dX4_image_2 (by decide) ?_
  obtain ⟨o1, ho1, hf⟩ := bd_el hf
  refine kc0_i (D := D) (va_runS (As := [.int p0, .int 0, .int 1]) (rest := []) ⟨hx, hb, hml, hown, hts⟩ ((k_X4_isWithin l D K p0 (0) (1) o1 ho1) H.size) (va_cwS 3 hts gX4_image_X4_isWithin rfl rfl rfl yd_X4_isWithin ⟨Nat.le_of_ble_eq_true rfl, Nat.le_of_ble_eq_true rfl⟩) (kPreS va_P_nil (va_D_nil (A := fun _ => True)) hK hN) rfl rfl hl.1 rfl (lv_room (Nat.le_of_ble_eq_true rfl)) dX4_image_3 ⟨Nat.le_of_ble_eq_true rfl, Nat.le_of_ble_eq_true rfl⟩) hP hS hA (fun hzo1 H locs hP hS => ?_)
  refine lv_if_ne (tgt := 12) hx hb dX4_image_6 (by decide) (fun c2 => ?_) (fun c2 => ?_)
  · rw [if_neg c2] at hf
    refine lv_aload_n hx hb dX4_image_12 rfl (lv_at hl 0 rfl) ?_
    refine va_get (D := D) (ci := 4) (v := .ref am) (C := RX4) (T := TX4) (N := 7) hx hb hts inX4_image_X4 hown hK hP 0 rfl rfl 2 (by decide) (hts (.fieldLink RX4 19 "WordScales" "images" "[LWordScales$Shop;") (List.mem_of_getElem? (i := 1) rfl)) (fun _ h9 => h9) rfl dX4_image_13 ?_
    refine lv_iload_n hx hb dX4_image_16 rfl (lv_at hl 1 rfl) ?_
    obtain ⟨v3, hf⟩ := chk_el hf
    refine va_aldq (D := D) (C := "WordScales$Shop") (f := vf) hx hb hK hP 1 3 rfl rfl v3 dX4_image_17 ?_
    rw [show va_rf (vf (p0).toNatClampNeg) = .ref (qk 0) from by rw [hfi]; rfl]
    refine lv_astore_n (lv' := [(2, .ref (qk 0)), (0, .ref ax), (1, .int p0)]) hx hb dX4_image_18 rfl hl (by decide) rfl (fun ls hl => ?_)
    refine lv_aload_n hx hb dX4_image_19 rfl (lv_at hl 0 rfl) ?_
    refine lv_ifnonnull (tgt := 38) hx hb dX4_image_20 (by decide) ?_
    refine lv_aload_n hx hb dX4_image_38 rfl (lv_at hl 0 rfl) ?_
    refine lv_aload_n hx hb dX4_image_39 rfl (lv_at hl 1 rfl) ?_
    refine va_get (D := D) (ci := 4) (v := .ref (q 0)) (C := RX4) (T := TX4) (N := 7) hx hb hts inX4_image_X4 hown hK hP 0 rfl rfl 0 (by decide) (hts (.fieldLink RX4 10 "WordScales" "shop" "LWordScales$Shop;") (List.mem_of_getElem? (i := 5) rfl)) (fun _ h9 => h9) rfl dX4_image_40 ?_
    obtain ⟨o4, ho4, hf⟩ := ob_el hf
    have hPc : va_P D vwCl ((shW K qk vwk vkk vrk vpk vbk vik vwck vlk vgk vok vsck) ++ (shW K q vw vk vr vp vb vi vwc vl vg vo vsc)) H := hP.sub [12, 13, 14, 15, 16, 17, 18, 19, 20, 21, 2, 3, 4, 5, 6, 7, 8, 9, 10, 11] rfl
    have hDc : va_D A ((shW K qk vwk vkk vrk vpk vbk vik vwck vlk vgk vok vsck) ++ (shW K q vw vk vr vp vb vi vwc vl vg vo vsc)) := hD.sub [12, 13, 14, 15, 16, 17, 18, 19, 20, 21, 2, 3, 4, 5, 6, 7, 8, 9, 10, 11] (by decide) rfl
    refine kcg_v (D := D) (wc := ((shW K qk vwk vkk vrk vpk vbk vik vwck vlk vgk vok vsck) ++ (shW K q vw vk vr vp vb vi vwc vl vg vo vsc))) (wc' := ((shW K qk o4.1 o4.2.1 o4.2.2.1 o4.2.2.2.1 o4.2.2.2.2.1 o4.2.2.2.2.2.1 o4.2.2.2.2.2.2.1 o4.2.2.2.2.2.2.2.1 o4.2.2.2.2.2.2.2.2.1 o4.2.2.2.2.2.2.2.2.2.1 o4.2.2.2.2.2.2.2.2.2.2) ++ (shW K q vw vk vr vp vb vi vwc vl vg vo vsc))) (wr := [0, 1].filterMap (fun i => (((xoW ax (q 0) zyearShop am zsigns zdays zmeans vsgc) ++ (imW K am vf) ++ (shW K q vw vk vr vp vb vi vwc vl vg vo vsc) ++ (shW K qk vwk vkk vrk vpk vbk vik vwck vlk vgk vok vsck)) : va_W)[i]?)) (ws2 := ((xoW ax (q 0) zyearShop am zsigns zdays zmeans vsgc) ++ (imW K am vf) ++ (shW K q vw vk vr vp vb vi vwc vl vg vo vsc) ++ (shW K qk o4.1 o4.2.1 o4.2.2.1 o4.2.2.2.1 o4.2.2.2.2.1 o4.2.2.2.2.2.1 o4.2.2.2.2.2.2.1 o4.2.2.2.2.2.2.2.1 o4.2.2.2.2.2.2.2.2.1 o4.2.2.2.2.2.2.2.2.2.1 o4.2.2.2.2.2.2.2.2.2.2))) (va_runVN (As := [.ref (q 0)]) (rest := []) ⟨hx, hb, hml, hown, hts⟩ ((k_X3_copyFrom l D K qk q vwk vkk vrk vpk vbk vik vwck vlk vgk vok vsck vw vk vr vp vb vi vwc vl vg vo vsc o4 ho4) H.size) ⟨va_cnB 1 hts gX4_image_X3_copyFrom_n117 rfl rfl rfl (hN _ (List.mem_of_getElem? (i := 50) rfl)) (hts (.initialized RX3) (List.mem_of_getElem? (i := 4) rfl)) yd_X3_copyFrom ⟨Nat.le_of_ble_eq_true rfl, Nat.le_of_ble_eq_true rfl⟩, (hts (.instanceMethod yX3_copyFrom) (List.mem_of_getElem? (i := 27) rfl)), (hts (.selects RX3 yX3_copyFrom yX3_copyFrom) (List.mem_of_getElem? (i := 28) rfl))⟩ (kPreV (ci := 3) (q0 := 12) hP rfl rfl hPc hDc hK hN) rfl rfl hl.1 rfl (lv_room (Nat.le_of_ble_eq_true rfl)) dX4_image_43 ⟨Nat.le_of_ble_eq_true rfl, Nat.le_of_ble_eq_true rfl⟩) hP hD hS hA [12, 13, 14, 15, 16, 17, 18, 19, 20, 21, 2, 3, 4, 5, 6, 7, 8, 9, 10, 11] [0, 1] [0, 1, 12, 13, 14, 15, 16, 17, 18, 19, 20, 21, 2, 3, 4, 5, 6, 7, 8, 9, 10, 11] rfl rfl (by decide) (by decide) rfl (by decide) (fun H locs hP hD hS => ?_)
    refine lv_iconst (v := 1) hx hb dX4_image_46 (by decide) ?_
    obtain rfl := Option.some.inj hf
    exact hret rfl rfl rfl hP hD hS dX4_image_47
  · rw [if_pos c2] at hf
    refine lv_bipush (v := (-2)) hx hb dX4_image_9 (by decide) ?_
    obtain rfl := Option.some.inj hf
    exact hret rfl rfl rfl hP hD hS dX4_image_11
def f_X4_image_new (vw : Nat → Int32) (vk : Nat → Int32) (vr : Nat → Int32) (vp : Nat → Int32) (vb : Nat → Int32) (vi : Nat → Int32) (vwc : Int32) (vl : Nat → Int32) (vg : Nat → Int32) (vo : Nat → Int32) (vsc : Int32) (p0 : Int32) : Option (Int32 × (Nat → Int32) × (Nat → Int32) × (Nat → Int32) × (Nat → Int32) × (Nat → Int32) × (Nat → Int32) × Int32 × (Nat → Int32) × (Nat → Int32) × (Nat → Int32) × Int32) := bd (f_X4_isWithin p0 (0) (1)) (fun o1 => chk p0 2 (ob f_X3_init (fun o5 => ob (f_X3_copyFrom o5.1 o5.2.1 o5.2.2.1 o5.2.2.2.1 o5.2.2.2.2.1 o5.2.2.2.2.2.1 o5.2.2.2.2.2.2.2.1 o5.2.2.2.2.2.2.2.2.1 o5.2.2.2.2.2.2.2.2.2.1 vw vk vr vp vb vi vwc vl vg vo vsc) (fun o7 => some (1, o7.1, o7.2.1, o7.2.2.1, o7.2.2.2.1, o7.2.2.2.2.1, o7.2.2.2.2.2.1, o7.2.2.2.2.2.2.1, o7.2.2.2.2.2.2.2.1, o7.2.2.2.2.2.2.2.2.1, o7.2.2.2.2.2.2.2.2.2.1, o7.2.2.2.2.2.2.2.2.2.2)))))
theorem inX4_image_X3 : ∀ w ∈ wsX30, w ∈ wsX4_image := fun w h => List.mem_cons_of_mem _ (List.mem_append_right _ h)
abbrev rmX4_image_new : Room := { frames := 2, cells := 10, slots := 81, locals := 43 }
set_option maxHeartbeats 4000000 in
set_option maxRecDepth 100000 in
theorem k_X4_image_new (l : Launch) (D : va_G) (K : Nat → ClassId) (ax : Nat) (am : Nat) (q : Nat → Nat) (zyearShop : Nat) (zsigns : Nat) (zdays : Nat) (zmeans : Nat) (vsgc : Int32) (vf : Nat → Option Nat) (vw : Nat → Int32) (vk : Nat → Int32) (vr : Nat → Int32) (vp : Nat → Int32) (vb : Nat → Int32) (vi : Nat → Int32) (vwc : Int32) (vl : Nat → Int32) (vg : Nat → Int32) (vo : Nat → Int32) (vsc : Int32) (p0 : Int32) (out : Int32 × (Nat → Int32) × (Nat → Int32) × (Nat → Int32) × (Nat → Int32) × (Nat → Int32) × (Nat → Int32) × Int32 × (Nat → Int32) × (Nat → Int32) × (Nat → Int32) × Int32) (hin : ¬ f_X4_isWithin p0 0 1 = 0) (hfi : vf (p0).toNatClampNeg = none) (hf : f_X4_image_new vw vk vr vp vb vi vwc vl vg vo vsc p0 = some out) : kM l D K .int yX4_image wsX4_image rmX4_image_new [.ref ax, .int p0] ((xoW ax (q 0) zyearShop am zsigns zdays zmeans vsgc) ++ (imW K am vf) ++ (shW K q vw vk vr vp vb vi vwc vl vg vo vsc)) out.1 (fun (u : Nat → Nat) => ((xoW ax (q 0) zyearShop am zsigns zdays zmeans vsgc) ++ (imW K am (va_up vf (p0).toNatClampNeg (some (u 0)))) ++ (shW K q vw vk vr vp vb vi vwc vl vg vo vsc) ++ (shW K u out.2.1 out.2.2.1 out.2.2.2.1 out.2.2.2.2.1 out.2.2.2.2.2.1 out.2.2.2.2.2.2.1 out.2.2.2.2.2.2.2.1 out.2.2.2.2.2.2.2.2.1 out.2.2.2.2.2.2.2.2.2.1 out.2.2.2.2.2.2.2.2.2.2.1 out.2.2.2.2.2.2.2.2.2.2.2))) 10 81 := by
  refine kM.of (cc := cX4_image) (maxL := 3) (by decide) rfl (Nat.le_of_ble_eq_true rfl) ?_
  intro p e s m args below meth c A H0 Q ls hx hb hml hown hts hK hN hA hP hD hS hl hret
  have hown : s.vm.findClass RX4 = some m.cls := hown
  have hl : lv_has ls 3 [(0, .ref ax), (1, .int p0)] := hl
  generalize hH : H0 = H at hP ⊢
  have hS : va_S A H0 H [] := by rw [← hH]; exact hS
  clear hH
  unfold f_X4_image_new at hf
  refine lv_iload_n hx hb dX4_image_0 rfl (lv_at hl 1 rfl) ?_
  refine lv_iconst (v := 0) hx hb dX4_image_1 (by decide) ?_
  refine lv_iconst (v := 1) hx hb dX4_image_2 (by decide) ?_
  obtain ⟨o1, ho1, hf⟩ := bd_el hf
  refine kc0_i (D := D) (va_runS (As := [.int p0, .int 0, .int 1]) (rest := []) ⟨hx, hb, hml, hown, hts⟩ ((k_X4_isWithin l D K p0 (0) (1) o1 ho1) H.size) (va_cwS 3 hts gX4_image_X4_isWithin rfl rfl rfl yd_X4_isWithin ⟨Nat.le_of_ble_eq_true rfl, Nat.le_of_ble_eq_true rfl⟩) (kPreS va_P_nil (va_D_nil (A := fun _ => True)) hK hN) rfl rfl hl.1 rfl (lv_room (Nat.le_of_ble_eq_true rfl)) dX4_image_3 ⟨Nat.le_of_ble_eq_true rfl, Nat.le_of_ble_eq_true rfl⟩) hP hS hA (fun hzo1 H locs hP hS => ?_)
  have hno : ¬ o1 = 0 := fun h => hin (ho1.trans h)
  refine lv_if_ne (tgt := 12) hx hb dX4_image_6 (by decide) (fun c2 => ?_) (fun c2 => ?_)
  · skip
    refine lv_aload_n hx hb dX4_image_12 rfl (lv_at hl 0 rfl) ?_
    refine va_get (D := D) (ci := 4) (v := .ref am) (C := RX4) (T := TX4) (N := 7) hx hb hts inX4_image_X4 hown hK hP 0 rfl rfl 2 (by decide) (hts (.fieldLink RX4 19 "WordScales" "images" "[LWordScales$Shop;") (List.mem_of_getElem? (i := 1) rfl)) (fun _ h9 => h9) rfl dX4_image_13 ?_
    refine lv_iload_n hx hb dX4_image_16 rfl (lv_at hl 1 rfl) ?_
    obtain ⟨v3, hf⟩ := chk_el hf
    refine va_aldq (D := D) (C := "WordScales$Shop") (f := vf) hx hb hK hP 1 3 rfl rfl v3 dX4_image_17 ?_
    rw [show va_rf (vf (p0).toNatClampNeg) = .null from by rw [hfi]; rfl]
    refine lv_astore_nN (lv' := [(2, .null), (0, .ref ax), (1, .int p0)]) hx hb dX4_image_18 rfl hl (by decide) rfl (fun ls hl => ?_)
    refine lv_aload_nN hx hb dX4_image_19 rfl (lv_at hl 0 rfl) ?_
    refine lv_ifnonnullN hx hb dX4_image_20 ?_
    refine va_new (ci := 3) (fs := [.null, .null, .null, .null, .null, .null, .int 0, .null, .null, .null, .int 0]) (C := RX3) (T := TX3) (N := 11) hx hb hts inX4_image_X3 tyX3 tyX3_ok hown (hts (.classLink RX4 7 RX3) (List.mem_of_getElem? (i := 2) rfl)) (hts (.instantiable RX3 11) (List.mem_of_getElem? (i := 3) rfl)) (hts (.initialized RX3) (List.mem_of_getElem? (i := 4) rfl)) hK hP hD hS hA rfl (fun j hj => by rcases (show j = 0 ∨ j = 1 ∨ j = 2 ∨ j = 3 ∨ j = 4 ∨ j = 5 ∨ j = 6 ∨ j = 7 ∨ j = 8 ∨ j = 9 ∨ j = 10 by omega) with rfl | rfl | rfl | rfl | rfl | rfl | rfl | rfl | rfl | rfl | rfl <;> rfl) (Nat.le_of_ble_eq_true rfl) (Nat.le_of_ble_eq_true rfl) dX4_image_23 (fun q4 H hP hD hS => ?_)
    have hP : va_P D vwCl ((xoW ax (q 0) zyearShop am zsigns zdays zmeans vsgc) ++ (imW K am vf) ++ (shW K q vw vk vr vp vb vi vwc vl vg vo vsc) ++ ([(q4, .inr (3, [.null, .null, .null, .null, .null, .null, .int 0, .null, .null, .null, .int 0]))] : va_W)) H := hP
    have hD : va_D A ((xoW ax (q 0) zyearShop am zsigns zdays zmeans vsgc) ++ (imW K am vf) ++ (shW K q vw vk vr vp vb vi vwc vl vg vo vsc) ++ ([(q4, .inr (3, [.null, .null, .null, .null, .null, .null, .int 0, .null, .null, .null, .int 0]))] : va_W)) := hD
    refine W.widen (k := 1) (n := 11) (Nat.le_of_ble_eq_true rfl) (Nat.le_of_ble_eq_true rfl) ?_
    refine lv_dup hx hb dX4_image_26 rfl ?_
    obtain ⟨o5, ho5, hf⟩ := ob_el hf
    have hPc : va_P D vwCl ([(q4, .inr (3, [.null, .null, .null, .null, .null, .null, .int 0, .null, .null, .null, .int 0]))] : va_W) H := hP.sub [12] rfl
    have hDc : va_D A ([(q4, .inr (3, [.null, .null, .null, .null, .null, .null, .int 0, .null, .null, .null, .int 0]))] : va_W) := hD.sub [12] rfl rfl
    refine kcn_v (D := D) (wr := ((xoW ax (q 0) zyearShop am zsigns zdays zmeans vsgc) ++ (imW K am vf) ++ (shW K q vw vk vr vp vb vi vwc vl vg vo vsc))) (va_runIN (As := []) (rest := [.ref q4]) ⟨hx, hb, hml, hown, hts⟩ (k_X3_init l D K q4 o5 ho5 H.size) ⟨va_cnB 0 hts gX4_image_X3_init_n9 rfl rfl rfl (hN _ (List.mem_of_getElem? (i := 27) rfl)) (hts (.initialized RX3) (List.mem_of_getElem? (i := 4) rfl)) yd_X3_init ⟨Nat.le_of_ble_eq_true rfl, Nat.le_of_ble_eq_true rfl⟩, rfl, (hts (.instanceMethod yX3_init) (List.mem_of_getElem? (i := 10) rfl))⟩ (kPreS hPc hDc hK hN) rfl rfl hl.1 rfl (lv_room (Nat.le_of_ble_eq_true rfl)) dX4_image_27 ⟨Nat.le_of_ble_eq_true rfl, Nat.le_of_ble_eq_true rfl⟩) hP hD hS hA [12] [0, 1, 2, 3, 4, 5, 6, 7, 8, 9, 10, 11] rfl rfl (by decide +kernel) (by decide +kernel) (fun u6 Hn locsn hpost hPn hDn hSn => ?_)
    obtain rfl := hpost
    have hP : va_P D vwCl ((xoW ax (q 0) zyearShop am zsigns zdays zmeans vsgc) ++ (imW K am vf) ++ (shW K q vw vk vr vp vb vi vwc vl vg vo vsc) ++ (shW K u6 o5.1 o5.2.1 o5.2.2.1 o5.2.2.2.1 o5.2.2.2.2.1 o5.2.2.2.2.2.1 o5.2.2.2.2.2.2.1 o5.2.2.2.2.2.2.2.1 o5.2.2.2.2.2.2.2.2.1 o5.2.2.2.2.2.2.2.2.2.1 o5.2.2.2.2.2.2.2.2.2.2)) Hn := hPn
    have hD : va_D A ((xoW ax (q 0) zyearShop am zsigns zdays zmeans vsgc) ++ (imW K am vf) ++ (shW K q vw vk vr vp vb vi vwc vl vg vo vsc) ++ (shW K u6 o5.1 o5.2.1 o5.2.2.1 o5.2.2.2.1 o5.2.2.2.2.1 o5.2.2.2.2.2.1 o5.2.2.2.2.2.2.1 o5.2.2.2.2.2.2.2.1 o5.2.2.2.2.2.2.2.2.1 o5.2.2.2.2.2.2.2.2.2.1 o5.2.2.2.2.2.2.2.2.2.2)) := hDn
    have hS := hSn
    clear hPn hDn hSn
    generalize Hn = H at hP hS ⊢
    generalize locsn = locs at hS ⊢
    refine W.widen (k := 10) (n := 81) (Nat.le_of_ble_eq_true rfl) (Nat.le_of_ble_eq_true rfl) ?_
    refine lv_astore_n (lv' := [(2, .ref (u6 0)), (0, .ref ax), (1, .int p0)]) hx hb dX4_image_30 rfl hl (by decide) rfl (fun ls hl => ?_)
    refine lv_aload_n hx hb dX4_image_31 rfl (lv_at hl 1 rfl) ?_
    refine va_get (D := D) (ci := 4) (v := .ref am) (C := RX4) (T := TX4) (N := 7) hx hb hts inX4_image_X4 hown hK hP 0 rfl rfl 2 (by decide) (hts (.fieldLink RX4 19 "WordScales" "images" "[LWordScales$Shop;") (List.mem_of_getElem? (i := 1) rfl)) (fun _ h9 => h9) rfl dX4_image_32 ?_
    refine lv_iload_n hx hb dX4_image_35 rfl (lv_at hl 2 rfl) ?_
    refine lv_aload_n hx hb dX4_image_36 rfl (lv_at hl 0 rfl) ?_
    refine va_astq (D := D) (r := (RX3, TX3, 11)) (f := vf) hx hb hK hP hD hS 1 3 12 3 rfl rfl rfl rfl v3 dX4_image_37 (fun H locs hP hD hS => ?_)
    have hP : va_P D vwCl ((xoW ax (q 0) zyearShop am zsigns zdays zmeans vsgc) ++ (imW K am (va_up vf (p0).toNatClampNeg (some (u6 0)))) ++ (shW K q vw vk vr vp vb vi vwc vl vg vo vsc) ++ (shW K u6 o5.1 o5.2.1 o5.2.2.1 o5.2.2.2.1 o5.2.2.2.2.1 o5.2.2.2.2.2.1 o5.2.2.2.2.2.2.1 o5.2.2.2.2.2.2.2.1 o5.2.2.2.2.2.2.2.2.1 o5.2.2.2.2.2.2.2.2.2.1 o5.2.2.2.2.2.2.2.2.2.2)) H := hP
    have hD : va_D A ((xoW ax (q 0) zyearShop am zsigns zdays zmeans vsgc) ++ (imW K am (va_up vf (p0).toNatClampNeg (some (u6 0)))) ++ (shW K q vw vk vr vp vb vi vwc vl vg vo vsc) ++ (shW K u6 o5.1 o5.2.1 o5.2.2.1 o5.2.2.2.1 o5.2.2.2.2.1 o5.2.2.2.2.2.1 o5.2.2.2.2.2.2.1 o5.2.2.2.2.2.2.2.1 o5.2.2.2.2.2.2.2.2.1 o5.2.2.2.2.2.2.2.2.2.1 o5.2.2.2.2.2.2.2.2.2.2)) := hD
    refine lv_aload_n hx hb dX4_image_38 rfl (lv_at hl 0 rfl) ?_
    refine lv_aload_n hx hb dX4_image_39 rfl (lv_at hl 1 rfl) ?_
    refine va_get (D := D) (ci := 4) (v := .ref (q 0)) (C := RX4) (T := TX4) (N := 7) hx hb hts inX4_image_X4 hown hK hP 0 rfl rfl 0 (by decide) (hts (.fieldLink RX4 10 "WordScales" "shop" "LWordScales$Shop;") (List.mem_of_getElem? (i := 5) rfl)) (fun _ h9 => h9) rfl dX4_image_40 ?_
    obtain ⟨o7, ho7, hf⟩ := ob_el hf
    have hPc : va_P D vwCl ((shW K u6 o5.1 o5.2.1 o5.2.2.1 o5.2.2.2.1 o5.2.2.2.2.1 o5.2.2.2.2.2.1 o5.2.2.2.2.2.2.1 o5.2.2.2.2.2.2.2.1 o5.2.2.2.2.2.2.2.2.1 o5.2.2.2.2.2.2.2.2.2.1 o5.2.2.2.2.2.2.2.2.2.2) ++ (shW K q vw vk vr vp vb vi vwc vl vg vo vsc)) H := hP.sub [12, 13, 14, 15, 16, 17, 18, 19, 20, 21, 2, 3, 4, 5, 6, 7, 8, 9, 10, 11] rfl
    have hDc : va_D A ((shW K u6 o5.1 o5.2.1 o5.2.2.1 o5.2.2.2.1 o5.2.2.2.2.1 o5.2.2.2.2.2.1 o5.2.2.2.2.2.2.1 o5.2.2.2.2.2.2.2.1 o5.2.2.2.2.2.2.2.2.1 o5.2.2.2.2.2.2.2.2.2.1 o5.2.2.2.2.2.2.2.2.2.2) ++ (shW K q vw vk vr vp vb vi vwc vl vg vo vsc)) := hD.sub [12, 13, 14, 15, 16, 17, 18, 19, 20, 21, 2, 3, 4, 5, 6, 7, 8, 9, 10, 11] (by decide) rfl
    refine kcg_v (D := D) (wc := ((shW K u6 o5.1 o5.2.1 o5.2.2.1 o5.2.2.2.1 o5.2.2.2.2.1 o5.2.2.2.2.2.1 o5.2.2.2.2.2.2.1 o5.2.2.2.2.2.2.2.1 o5.2.2.2.2.2.2.2.2.1 o5.2.2.2.2.2.2.2.2.2.1 o5.2.2.2.2.2.2.2.2.2.2) ++ (shW K q vw vk vr vp vb vi vwc vl vg vo vsc))) (wc' := ((shW K u6 o7.1 o7.2.1 o7.2.2.1 o7.2.2.2.1 o7.2.2.2.2.1 o7.2.2.2.2.2.1 o7.2.2.2.2.2.2.1 o7.2.2.2.2.2.2.2.1 o7.2.2.2.2.2.2.2.2.1 o7.2.2.2.2.2.2.2.2.2.1 o7.2.2.2.2.2.2.2.2.2.2) ++ (shW K q vw vk vr vp vb vi vwc vl vg vo vsc))) (wr := [0, 1].filterMap (fun i => (((xoW ax (q 0) zyearShop am zsigns zdays zmeans vsgc) ++ (imW K am (va_up vf (p0).toNatClampNeg (some (u6 0)))) ++ (shW K q vw vk vr vp vb vi vwc vl vg vo vsc) ++ (shW K u6 o5.1 o5.2.1 o5.2.2.1 o5.2.2.2.1 o5.2.2.2.2.1 o5.2.2.2.2.2.1 o5.2.2.2.2.2.2.1 o5.2.2.2.2.2.2.2.1 o5.2.2.2.2.2.2.2.2.1 o5.2.2.2.2.2.2.2.2.2.1 o5.2.2.2.2.2.2.2.2.2.2)) : va_W)[i]?)) (ws2 := ((xoW ax (q 0) zyearShop am zsigns zdays zmeans vsgc) ++ (imW K am (va_up vf (p0).toNatClampNeg (some (u6 0)))) ++ (shW K q vw vk vr vp vb vi vwc vl vg vo vsc) ++ (shW K u6 o7.1 o7.2.1 o7.2.2.1 o7.2.2.2.1 o7.2.2.2.2.1 o7.2.2.2.2.2.1 o7.2.2.2.2.2.2.1 o7.2.2.2.2.2.2.2.1 o7.2.2.2.2.2.2.2.2.1 o7.2.2.2.2.2.2.2.2.2.1 o7.2.2.2.2.2.2.2.2.2.2))) (va_runVN (As := [.ref (q 0)]) (rest := []) ⟨hx, hb, hml, hown, hts⟩ ((k_X3_copyFrom l D K u6 q o5.1 o5.2.1 o5.2.2.1 o5.2.2.2.1 o5.2.2.2.2.1 o5.2.2.2.2.2.1 o5.2.2.2.2.2.2.1 o5.2.2.2.2.2.2.2.1 o5.2.2.2.2.2.2.2.2.1 o5.2.2.2.2.2.2.2.2.2.1 o5.2.2.2.2.2.2.2.2.2.2 vw vk vr vp vb vi vwc vl vg vo vsc o7 ho7) H.size) ⟨va_cnB 1 hts gX4_image_X3_copyFrom_n117 rfl rfl rfl (hN _ (List.mem_of_getElem? (i := 50) rfl)) (hts (.initialized RX3) (List.mem_of_getElem? (i := 4) rfl)) yd_X3_copyFrom ⟨Nat.le_of_ble_eq_true rfl, Nat.le_of_ble_eq_true rfl⟩, (hts (.instanceMethod yX3_copyFrom) (List.mem_of_getElem? (i := 27) rfl)), (hts (.selects RX3 yX3_copyFrom yX3_copyFrom) (List.mem_of_getElem? (i := 28) rfl))⟩ (kPreV (ci := 3) (q0 := 12) hP rfl rfl hPc hDc hK hN) rfl rfl hl.1 rfl (lv_room (Nat.le_of_ble_eq_true rfl)) dX4_image_43 ⟨Nat.le_of_ble_eq_true rfl, Nat.le_of_ble_eq_true rfl⟩) hP hD hS hA [12, 13, 14, 15, 16, 17, 18, 19, 20, 21, 2, 3, 4, 5, 6, 7, 8, 9, 10, 11] [0, 1] [0, 1, 12, 13, 14, 15, 16, 17, 18, 19, 20, 21, 2, 3, 4, 5, 6, 7, 8, 9, 10, 11] rfl rfl (by decide) (by decide) rfl (by decide) (fun H locs hP hD hS => ?_)
    refine lv_iconst (v := 1) hx hb dX4_image_46 (by decide) ?_
    obtain rfl := Option.some.inj hf
    exact hret u6 rfl rfl rfl hP hD hS dX4_image_47
  · exact absurd c2 hno
def f_X4_restore_old (vw : Nat → Int32) (vk : Nat → Int32) (vr : Nat → Int32) (vp : Nat → Int32) (vb : Nat → Int32) (vi : Nat → Int32) (vwc : Int32) (vl : Nat → Int32) (vg : Nat → Int32) (vo : Nat → Int32) (vsc : Int32) (vwk : Nat → Int32) (vkk : Nat → Int32) (vrk : Nat → Int32) (vpk : Nat → Int32) (vbk : Nat → Int32) (vik : Nat → Int32) (vwck : Int32) (vlk : Nat → Int32) (vgk : Nat → Int32) (vok : Nat → Int32) (vsck : Int32) (p0 : Int32) : Option (Int32 × (Nat → Int32) × (Nat → Int32) × (Nat → Int32) × (Nat → Int32) × (Nat → Int32) × (Nat → Int32) × Int32 × (Nat → Int32) × (Nat → Int32) × (Nat → Int32) × Int32) := bd (f_X4_isWithin p0 (0) (1)) (fun o1 => if o1 = 0 then (some ((-2), vw, vk, vr, vp, vb, vi, vwc, vl, vg, vo, vsc)) else (chk p0 2 (ob (f_X3_copyFrom vw vk vr vp vb vi vl vg vo vwk vkk vrk vpk vbk vik vwck vlk vgk vok vsck) (fun o4 => some (1, o4.1, o4.2.1, o4.2.2.1, o4.2.2.2.1, o4.2.2.2.2.1, o4.2.2.2.2.2.1, o4.2.2.2.2.2.2.1, o4.2.2.2.2.2.2.2.1, o4.2.2.2.2.2.2.2.2.1, o4.2.2.2.2.2.2.2.2.2.1, o4.2.2.2.2.2.2.2.2.2.2)))))
theorem inX4_restore_X4 : ∀ w ∈ wsX40, w ∈ wsX4_restore := fun w h => List.mem_cons_of_mem _ (List.mem_append_left _ (List.mem_append_right _ h))
abbrev rmX4_restore_old : Room := { frames := 2, cells := 0, slots := 0, locals := 43 }
set_option maxHeartbeats 4000000 in
set_option maxRecDepth 100000 in
theorem k_X4_restore_old (l : Launch) (D : va_G) (K : Nat → ClassId) (ax : Nat) (am : Nat) (q : Nat → Nat) (qk : Nat → Nat) (zyearShop : Nat) (zsigns : Nat) (zdays : Nat) (zmeans : Nat) (vsgc : Int32) (vf : Nat → Option Nat) (vw : Nat → Int32) (vk : Nat → Int32) (vr : Nat → Int32) (vp : Nat → Int32) (vb : Nat → Int32) (vi : Nat → Int32) (vwc : Int32) (vl : Nat → Int32) (vg : Nat → Int32) (vo : Nat → Int32) (vsc : Int32) (vwk : Nat → Int32) (vkk : Nat → Int32) (vrk : Nat → Int32) (vpk : Nat → Int32) (vbk : Nat → Int32) (vik : Nat → Int32) (vwck : Int32) (vlk : Nat → Int32) (vgk : Nat → Int32) (vok : Nat → Int32) (vsck : Int32) (p0 : Int32) (out : Int32 × (Nat → Int32) × (Nat → Int32) × (Nat → Int32) × (Nat → Int32) × (Nat → Int32) × (Nat → Int32) × Int32 × (Nat → Int32) × (Nat → Int32) × (Nat → Int32) × Int32) (hfi : vf (p0).toNatClampNeg = some (qk 0)) (hf : f_X4_restore_old vw vk vr vp vb vi vwc vl vg vo vsc vwk vkk vrk vpk vbk vik vwck vlk vgk vok vsck p0 = some out) : kI l D K .int yX4_restore wsX4_restore rmX4_restore_old [.ref ax, .int p0] ((xoW ax (q 0) zyearShop am zsigns zdays zmeans vsgc) ++ (imW K am vf) ++ (shW K q vw vk vr vp vb vi vwc vl vg vo vsc) ++ (shW K qk vwk vkk vrk vpk vbk vik vwck vlk vgk vok vsck)) out.1 ((xoW ax (q 0) zyearShop am zsigns zdays zmeans vsgc) ++ (imW K am vf) ++ (shW K q out.2.1 out.2.2.1 out.2.2.2.1 out.2.2.2.2.1 out.2.2.2.2.2.1 out.2.2.2.2.2.2.1 out.2.2.2.2.2.2.2.1 out.2.2.2.2.2.2.2.2.1 out.2.2.2.2.2.2.2.2.2.1 out.2.2.2.2.2.2.2.2.2.2.1 out.2.2.2.2.2.2.2.2.2.2.2) ++ (shW K qk vwk vkk vrk vpk vbk vik vwck vlk vgk vok vsck)) := by
  refine kI.of (cc := cX4_restore) (maxL := 3) (by decide) rfl (Nat.le_of_ble_eq_true rfl) ?_
  intro p e s m args below meth c A H0 Q ls hx hb hml hown hts hK hN hA hP hD hS hl hret
  have hown : s.vm.findClass RX4 = some m.cls := hown
  have hl : lv_has ls 3 [(0, .ref ax), (1, .int p0)] := hl
  generalize hH : H0 = H at hP ⊢
  have hS : va_S A H0 H [] := by rw [← hH]; exact hS
  clear hH
  unfold f_X4_restore_old at hf
  refine lv_iload_n hx hb dX4_restore_0 rfl (lv_at hl 1 rfl) ?_
  refine lv_iconst (v := 0) hx hb dX4_restore_1 (by decide) ?_
  refine lv_iconst (v := 1) hx hb dX4_restore_2 (by decide) ?_
  obtain ⟨o1, ho1, hf⟩ := bd_el hf
  refine kc0_i (D := D) (va_runS (As := [.int p0, .int 0, .int 1]) (rest := []) ⟨hx, hb, hml, hown, hts⟩ ((k_X4_isWithin l D K p0 (0) (1) o1 ho1) H.size) (va_cwS 3 hts gX4_restore_X4_isWithin rfl rfl rfl yd_X4_isWithin ⟨Nat.le_of_ble_eq_true rfl, Nat.le_of_ble_eq_true rfl⟩) (kPreS va_P_nil (va_D_nil (A := fun _ => True)) hK hN) rfl rfl hl.1 rfl (lv_room (Nat.le_of_ble_eq_true rfl)) dX4_restore_3 ⟨Nat.le_of_ble_eq_true rfl, Nat.le_of_ble_eq_true rfl⟩) hP hS hA (fun hzo1 H locs hP hS => ?_)
  refine lv_if_ne (tgt := 12) hx hb dX4_restore_6 (by decide) (fun c2 => ?_) (fun c2 => ?_)
  · rw [if_neg c2] at hf
    refine lv_aload_n hx hb dX4_restore_12 rfl (lv_at hl 0 rfl) ?_
    refine va_get (D := D) (ci := 4) (v := .ref am) (C := RX4) (T := TX4) (N := 7) hx hb hts inX4_restore_X4 hown hK hP 0 rfl rfl 2 (by decide) (hts (.fieldLink RX4 19 "WordScales" "images" "[LWordScales$Shop;") (List.mem_of_getElem? (i := 1) rfl)) (fun _ h9 => h9) rfl dX4_restore_13 ?_
    refine lv_iload_n hx hb dX4_restore_16 rfl (lv_at hl 1 rfl) ?_
    obtain ⟨v3, hf⟩ := chk_el hf
    refine va_aldq (D := D) (C := "WordScales$Shop") (f := vf) hx hb hK hP 1 3 rfl rfl v3 dX4_restore_17 ?_
    rw [show va_rf (vf (p0).toNatClampNeg) = .ref (qk 0) from by rw [hfi]; rfl]
    refine lv_astore_n (lv' := [(2, .ref (qk 0)), (0, .ref ax), (1, .int p0)]) hx hb dX4_restore_18 rfl hl (by decide) rfl (fun ls hl => ?_)
    refine lv_aload_n hx hb dX4_restore_19 rfl (lv_at hl 0 rfl) ?_
    refine lv_ifnonnull (tgt := 26) hx hb dX4_restore_20 (by decide) ?_
    refine lv_aload_n hx hb dX4_restore_26 rfl (lv_at hl 1 rfl) ?_
    refine va_get (D := D) (ci := 4) (v := .ref (q 0)) (C := RX4) (T := TX4) (N := 7) hx hb hts inX4_restore_X4 hown hK hP 0 rfl rfl 0 (by decide) (hts (.fieldLink RX4 10 "WordScales" "shop" "LWordScales$Shop;") (List.mem_of_getElem? (i := 2) rfl)) (fun _ h9 => h9) rfl dX4_restore_27 ?_
    refine lv_aload_n hx hb dX4_restore_30 rfl (lv_at hl 0 rfl) ?_
    obtain ⟨o4, ho4, hf⟩ := ob_el hf
    have hPc : va_P D vwCl ((shW K q vw vk vr vp vb vi vwc vl vg vo vsc) ++ (shW K qk vwk vkk vrk vpk vbk vik vwck vlk vgk vok vsck)) H := hP.sub [2, 3, 4, 5, 6, 7, 8, 9, 10, 11, 12, 13, 14, 15, 16, 17, 18, 19, 20, 21] rfl
    have hDc : va_D A ((shW K q vw vk vr vp vb vi vwc vl vg vo vsc) ++ (shW K qk vwk vkk vrk vpk vbk vik vwck vlk vgk vok vsck)) := hD.sub [2, 3, 4, 5, 6, 7, 8, 9, 10, 11, 12, 13, 14, 15, 16, 17, 18, 19, 20, 21] (by decide) rfl
    refine kcg_v (D := D) (wc := ((shW K q vw vk vr vp vb vi vwc vl vg vo vsc) ++ (shW K qk vwk vkk vrk vpk vbk vik vwck vlk vgk vok vsck))) (wc' := ((shW K q o4.1 o4.2.1 o4.2.2.1 o4.2.2.2.1 o4.2.2.2.2.1 o4.2.2.2.2.2.1 o4.2.2.2.2.2.2.1 o4.2.2.2.2.2.2.2.1 o4.2.2.2.2.2.2.2.2.1 o4.2.2.2.2.2.2.2.2.2.1 o4.2.2.2.2.2.2.2.2.2.2) ++ (shW K qk vwk vkk vrk vpk vbk vik vwck vlk vgk vok vsck))) (wr := [0, 1].filterMap (fun i => (((xoW ax (q 0) zyearShop am zsigns zdays zmeans vsgc) ++ (imW K am vf) ++ (shW K q vw vk vr vp vb vi vwc vl vg vo vsc) ++ (shW K qk vwk vkk vrk vpk vbk vik vwck vlk vgk vok vsck)) : va_W)[i]?)) (ws2 := ((xoW ax (q 0) zyearShop am zsigns zdays zmeans vsgc) ++ (imW K am vf) ++ (shW K q o4.1 o4.2.1 o4.2.2.1 o4.2.2.2.1 o4.2.2.2.2.1 o4.2.2.2.2.2.1 o4.2.2.2.2.2.2.1 o4.2.2.2.2.2.2.2.1 o4.2.2.2.2.2.2.2.2.1 o4.2.2.2.2.2.2.2.2.2.1 o4.2.2.2.2.2.2.2.2.2.2) ++ (shW K qk vwk vkk vrk vpk vbk vik vwck vlk vgk vok vsck))) (va_runVN (As := [.ref (qk 0)]) (rest := []) ⟨hx, hb, hml, hown, hts⟩ ((k_X3_copyFrom l D K q qk vw vk vr vp vb vi vwc vl vg vo vsc vwk vkk vrk vpk vbk vik vwck vlk vgk vok vsck o4 ho4) H.size) ⟨va_cnB 1 hts gX4_restore_X3_copyFrom_n117 rfl rfl rfl (hN _ (List.mem_of_getElem? (i := 50) rfl)) (hts (.initialized RX3) (List.mem_of_getElem? (i := 8) rfl)) yd_X3_copyFrom ⟨Nat.le_of_ble_eq_true rfl, Nat.le_of_ble_eq_true rfl⟩, (hts (.instanceMethod yX3_copyFrom) (List.mem_of_getElem? (i := 7) rfl)), (hts (.selects RX3 yX3_copyFrom yX3_copyFrom) (List.mem_of_getElem? (i := 9) rfl))⟩ (kPreV (ci := 3) (q0 := 2) hP rfl rfl hPc hDc hK hN) rfl rfl hl.1 rfl (lv_room (Nat.le_of_ble_eq_true rfl)) dX4_restore_31 ⟨Nat.le_of_ble_eq_true rfl, Nat.le_of_ble_eq_true rfl⟩) hP hD hS hA [2, 3, 4, 5, 6, 7, 8, 9, 10, 11, 12, 13, 14, 15, 16, 17, 18, 19, 20, 21] [0, 1] [0, 1, 2, 3, 4, 5, 6, 7, 8, 9, 10, 11, 12, 13, 14, 15, 16, 17, 18, 19, 20, 21] rfl rfl (by decide) (by decide) rfl (by decide) (fun H locs hP hD hS => ?_)
    refine lv_iconst (v := 1) hx hb dX4_restore_34 (by decide) ?_
    obtain rfl := Option.some.inj hf
    exact hret rfl rfl rfl hP hD hS dX4_restore_35
  · rw [if_pos c2] at hf
    refine lv_bipush (v := (-2)) hx hb dX4_restore_9 (by decide) ?_
    obtain rfl := Option.some.inj hf
    exact hret rfl rfl rfl hP hD hS dX4_restore_11
def f_X4_restore_none (p0 : Int32) : Option (Int32) := bd (f_X4_isWithin p0 (0) (1)) (fun o1 => if o1 = 0 then (some (-2)) else (chk p0 2 (some (-3))))
abbrev rmX4_restore_none : Room := { frames := 1, cells := 0, slots := 0, locals := 22 }
set_option maxHeartbeats 4000000 in
set_option maxRecDepth 100000 in
theorem k_X4_restore_none (l : Launch) (D : va_G) (K : Nat → ClassId) (ax : Nat) (am : Nat) (zshop : Nat) (zyearShop : Nat) (zsigns : Nat) (zdays : Nat) (zmeans : Nat) (vsgc : Int32) (vf : Nat → Option Nat) (p0 : Int32) (out : Int32) (hfi : vf (p0).toNatClampNeg = none) (hf : f_X4_restore_none p0 = some out) : kI l D K .int yX4_restore wsX4_restore rmX4_restore_none [.ref ax, .int p0] ((xoW ax zshop zyearShop am zsigns zdays zmeans vsgc) ++ (imW K am vf)) out ((xoW ax zshop zyearShop am zsigns zdays zmeans vsgc) ++ (imW K am vf)) := by
  refine kI.of (cc := cX4_restore) (maxL := 3) (by decide) rfl (Nat.le_of_ble_eq_true rfl) ?_
  intro p e s m args below meth c A H0 Q ls hx hb hml hown hts hK hN hA hP hD hS hl hret
  have hown : s.vm.findClass RX4 = some m.cls := hown
  have hl : lv_has ls 3 [(0, .ref ax), (1, .int p0)] := hl
  generalize hH : H0 = H at hP ⊢
  have hS : va_S A H0 H [] := by rw [← hH]; exact hS
  clear hH
  unfold f_X4_restore_none at hf
  refine lv_iload_n hx hb dX4_restore_0 rfl (lv_at hl 1 rfl) ?_
  refine lv_iconst (v := 0) hx hb dX4_restore_1 (by decide) ?_
  refine lv_iconst (v := 1) hx hb dX4_restore_2 (by decide) ?_
  obtain ⟨o1, ho1, hf⟩ := bd_el hf
  refine kc0_i (D := D) (va_runS (As := [.int p0, .int 0, .int 1]) (rest := []) ⟨hx, hb, hml, hown, hts⟩ ((k_X4_isWithin l D K p0 (0) (1) o1 ho1) H.size) (va_cwS 3 hts gX4_restore_X4_isWithin rfl rfl rfl yd_X4_isWithin ⟨Nat.le_of_ble_eq_true rfl, Nat.le_of_ble_eq_true rfl⟩) (kPreS va_P_nil (va_D_nil (A := fun _ => True)) hK hN) rfl rfl hl.1 rfl (lv_room (Nat.le_of_ble_eq_true rfl)) dX4_restore_3 ⟨Nat.le_of_ble_eq_true rfl, Nat.le_of_ble_eq_true rfl⟩) hP hS hA (fun hzo1 H locs hP hS => ?_)
  refine lv_if_ne (tgt := 12) hx hb dX4_restore_6 (by decide) (fun c2 => ?_) (fun c2 => ?_)
  · rw [if_neg c2] at hf
    refine lv_aload_n hx hb dX4_restore_12 rfl (lv_at hl 0 rfl) ?_
    refine va_get (D := D) (ci := 4) (v := .ref am) (C := RX4) (T := TX4) (N := 7) hx hb hts inX4_restore_X4 hown hK hP 0 rfl rfl 2 (by decide) (hts (.fieldLink RX4 19 "WordScales" "images" "[LWordScales$Shop;") (List.mem_of_getElem? (i := 1) rfl)) (fun _ h9 => h9) rfl dX4_restore_13 ?_
    refine lv_iload_n hx hb dX4_restore_16 rfl (lv_at hl 1 rfl) ?_
    obtain ⟨v3, hf⟩ := chk_el hf
    refine va_aldq (D := D) (C := "WordScales$Shop") (f := vf) hx hb hK hP 1 3 rfl rfl v3 dX4_restore_17 ?_
    rw [show va_rf (vf (p0).toNatClampNeg) = .null from by rw [hfi]; rfl]
    refine lv_astore_nN (lv' := [(2, .null), (0, .ref ax), (1, .int p0)]) hx hb dX4_restore_18 rfl hl (by decide) rfl (fun ls hl => ?_)
    refine lv_aload_nN hx hb dX4_restore_19 rfl (lv_at hl 0 rfl) ?_
    refine lv_ifnonnullN hx hb dX4_restore_20 ?_
    refine lv_bipush (v := (-3)) hx hb dX4_restore_23 (by decide) ?_
    obtain rfl := Option.some.inj hf
    exact hret rfl rfl rfl hP hD hS dX4_restore_25
  · rw [if_pos c2] at hf
    refine lv_bipush (v := (-2)) hx hb dX4_restore_9 (by decide) ?_
    obtain rfl := Option.some.inj hf
    exact hret rfl rfl rfl hP hD hS dX4_restore_11
