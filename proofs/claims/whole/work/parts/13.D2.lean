def f_X4_pool (vk : Nat → Int32) (vb : Nat → Int32) (p0 : Int32) (p1 : Int32) : Option (Int32) := bd (f_X4_isWithin p0 (1) (8)) (fun o1 => if o1 = 0 then (some (-2)) else (bd (f_X4_isWithin p1 (0) (1)) (fun o3 => if o3 = 0 then (some (-2)) else (ob (f_X4_fewestSpeakers vk vb p0) (fun o5 => if p1 = 1 then (some o5) else (if o5 = (-6) then (some o5) else (bd (f_J6_bitCount_0f7a4 o5) (fun o8 => some o8))))))))
theorem yd_X4_pool : yX4_pool.cls ≠ "java/lang/invoke/MethodHandle" ∧ yX4_pool.cls ≠ "java/lang/invoke/VarHandle" ∧ (parseMethodDescriptor yX4_pool.desc).map (fun d => d.parameters.length) = some 2 := by decide +kernel
abbrev rmX4_pool : Room := { frames := 4, cells := 0, slots := 0, locals := 94 }
set_option maxHeartbeats 4000000 in
set_option maxRecDepth 100000 in
theorem k_X4_pool (l : Launch) (D : va_G) (K : Nat → ClassId) (ax : Nat) (q : Nat → Nat) (zyearShop : Nat) (zimages : Nat) (zsigns : Nat) (zdays : Nat) (zmeans : Nat) (vsgc : Int32) (vw : Nat → Int32) (vk : Nat → Int32) (vr : Nat → Int32) (vp : Nat → Int32) (vb : Nat → Int32) (vi : Nat → Int32) (vwc : Int32) (vl : Nat → Int32) (vg : Nat → Int32) (vo : Nat → Int32) (vsc : Int32) (p0 : Int32) (p1 : Int32) (out : Int32) (hf : f_X4_pool vk vb p0 p1 = some out) : kI l D K .int yX4_pool wsX4_pool rmX4_pool [.ref ax, .int p0, .int p1] ((xoW ax (q 0) zyearShop zimages zsigns zdays zmeans vsgc) ++ (shW K q vw vk vr vp vb vi vwc vl vg vo vsc)) out ((xoW ax (q 0) zyearShop zimages zsigns zdays zmeans vsgc) ++ (shW K q vw vk vr vp vb vi vwc vl vg vo vsc)) := by
  refine kI.of (cc := cX4_pool) (maxL := 4) (by decide) rfl (Nat.le_of_ble_eq_true rfl) ?_
  intro p e s m args below meth c A H0 Q ls hx hb hml hown hts hK hN hA hP hD hS hl hret
  have hown : s.vm.findClass RX4 = some m.cls := hown
  have hl : lv_has ls 4 [(0, .ref ax), (1, .int p0), (2, .int p1)] := hl
  generalize hH : H0 = H at hP ⊢
  have hS : va_S A H0 H [] := by rw [← hH]; exact hS
  clear hH
  unfold f_X4_pool at hf
  refine lv_iload_n hx hb dX4_pool_0 rfl (lv_at hl 1 rfl) ?_
  refine lv_iconst (v := 1) hx hb dX4_pool_1 (by decide) ?_
  refine lv_bipush (v := 8) hx hb dX4_pool_2 (by decide) ?_
  obtain ⟨o1, ho1, hf⟩ := bd_el hf
  refine kc0_i (D := D) (va_runS (As := [.int p0, .int 1, .int 8]) (rest := []) ⟨hx, hb, hml, hown, hts⟩ ((k_X4_isWithin l D K p0 (1) (8) o1 ho1) H.size) (va_cwS 3 hts gX4_pool_X4_isWithin rfl rfl rfl yd_X4_isWithin ⟨Nat.le_of_ble_eq_true rfl, Nat.le_of_ble_eq_true rfl⟩) (kPreS va_P_nil (va_D_nil (A := fun _ => True)) hK hN) rfl rfl hl.1 rfl (lv_room (Nat.le_of_ble_eq_true rfl)) dX4_pool_4 ⟨Nat.le_of_ble_eq_true rfl, Nat.le_of_ble_eq_true rfl⟩) hP hS hA (fun hzo1 H locs hP hS => ?_)
  refine lv_if_eq (tgt := 19) hx hb dX4_pool_7 (by decide) (fun c2 => ?_) (fun c2 => ?_)
  · rw [if_pos c2] at hf
    refine lv_bipush (v := (-2)) hx hb dX4_pool_19 (by decide) ?_
    obtain rfl := Option.some.inj hf
    exact hret rfl rfl rfl hP hD hS dX4_pool_21
  · rw [if_neg c2] at hf
    refine lv_iload_n hx hb dX4_pool_10 rfl (lv_at hl 2 rfl) ?_
    refine lv_iconst (v := 0) hx hb dX4_pool_11 (by decide) ?_
    refine lv_iconst (v := 1) hx hb dX4_pool_12 (by decide) ?_
    obtain ⟨o3, ho3, hf⟩ := bd_el hf
    refine kc0_i (D := D) (va_runS (As := [.int p1, .int 0, .int 1]) (rest := []) ⟨hx, hb, hml, hown, hts⟩ ((k_X4_isWithin l D K p1 (0) (1) o3 ho3) H.size) (va_cwS 3 hts gX4_pool_X4_isWithin rfl rfl rfl yd_X4_isWithin ⟨Nat.le_of_ble_eq_true rfl, Nat.le_of_ble_eq_true rfl⟩) (kPreS va_P_nil (va_D_nil (A := fun _ => True)) hK hN) rfl rfl hl.1 rfl (lv_room (Nat.le_of_ble_eq_true rfl)) dX4_pool_13 ⟨Nat.le_of_ble_eq_true rfl, Nat.le_of_ble_eq_true rfl⟩) hP hS hA (fun hzo3 H locs hP hS => ?_)
    refine lv_if_ne (tgt := 22) hx hb dX4_pool_16 (by decide) (fun c4 => ?_) (fun c4 => ?_)
    · rw [if_neg c4] at hf
      refine lv_aload_n hx hb dX4_pool_22 rfl (lv_at hl 0 rfl) ?_
      refine lv_iload_n hx hb dX4_pool_23 rfl (lv_at hl 1 rfl) ?_
      obtain ⟨o5, ho5, hf⟩ := ob_el hf
      refine kcw_i (D := D) (va_runV (As := [.int p0]) (rest := []) ⟨hx, hb, hml, hown, hts⟩ ((k_X4_fewestSpeakers l D K ax q zyearShop zimages zsigns zdays zmeans vsgc vw vk vr vp vb vi vwc vl vg vo vsc p0 o5 ho5) H.size) (cwV 1 hts gX4_pool_X4_fewestSpeakers rfl rfl rfl ⟨rfl, yd_X4_fewestSpeakers⟩ ⟨Nat.le_of_ble_eq_true rfl, Nat.le_of_ble_eq_true rfl⟩) (kPreV (ci := 4) (q0 := 0) hP rfl rfl hP hD hK hN) rfl rfl hl.1 rfl (lv_room (Nat.le_of_ble_eq_true rfl)) dX4_pool_24 ⟨Nat.le_of_ble_eq_true rfl, Nat.le_of_ble_eq_true rfl⟩) hD hS hA (fun hzo5 H locs hP hD hS => ?_)
      have hP : va_P D vwCl ((xoW ax (q 0) zyearShop zimages zsigns zdays zmeans vsgc) ++ (shW K q vw vk vr vp vb vi vwc vl vg vo vsc)) H := hP
      have hD : va_D A ((xoW ax (q 0) zyearShop zimages zsigns zdays zmeans vsgc) ++ (shW K q vw vk vr vp vb vi vwc vl vg vo vsc)) := hD
      refine lv_istore_n (lv' := [(3, .int o5), (0, .ref ax), (1, .int p0), (2, .int p1)]) hx hb dX4_pool_27 rfl hl (by decide) rfl (fun ls hl => ?_)
      refine lv_iload_n hx hb dX4_pool_28 rfl (lv_at hl 3 rfl) ?_
      refine lv_iconst (v := 1) hx hb dX4_pool_29 (by decide) ?_
      refine lv_icmp_eq (tgt := 39) hx hb dX4_pool_30 (by decide) (fun c6 => ?_) (fun c6 => ?_)
      · rw [if_pos c6] at hf
        refine lv_iload_n hx hb dX4_pool_39 rfl (lv_at hl 0 rfl) ?_
        refine lv_goto (tgt := 47) hx hb dX4_pool_40 (by decide) ?_
        obtain rfl := Option.some.inj hf
        exact hret rfl rfl rfl hP hD hS dX4_pool_47
      · rw [if_neg c6] at hf
        refine lv_iload_n hx hb dX4_pool_33 rfl (lv_at hl 0 rfl) ?_
        refine lv_bipush (v := (-6)) hx hb dX4_pool_34 (by decide) ?_
        refine lv_icmp_ne (tgt := 43) hx hb dX4_pool_36 (by decide) (fun c7 => ?_) (fun c7 => ?_)
        · rw [if_neg c7] at hf
          refine lv_iload_n hx hb dX4_pool_43 rfl (lv_at hl 0 rfl) ?_
          obtain ⟨o8, ho8, hf⟩ := bd_el hf
          refine kc0_i (D := D) (va_runS (As := [.int o5]) (rest := []) ⟨hx, hb, hml, hown, hts⟩ ((k_J6_bitCount_0f7a4 l D K o5 o8 ho8) H.size) (va_cwS 1 hts gX4_pool_J6_bitCount_0f7a4 rfl rfl rfl yd_J6_bitCount_0f7a4 ⟨Nat.le_of_ble_eq_true rfl, Nat.le_of_ble_eq_true rfl⟩) (kPreS va_P_nil (va_D_nil (A := fun _ => True)) hK hN) rfl rfl hl.1 rfl (lv_room (Nat.le_of_ble_eq_true rfl)) dX4_pool_44 ⟨Nat.le_of_ble_eq_true rfl, Nat.le_of_ble_eq_true rfl⟩) hP hS hA (fun hzo8 H locs hP hS => ?_)
          obtain rfl := Option.some.inj hf
          exact hret rfl rfl rfl hP hD hS dX4_pool_47
        · rw [if_pos c7] at hf
          refine lv_iload_n hx hb dX4_pool_39 rfl (lv_at hl 0 rfl) ?_
          refine lv_goto (tgt := 47) hx hb dX4_pool_40 (by decide) ?_
          obtain rfl := Option.some.inj hf
          exact hret rfl rfl rfl hP hD hS dX4_pool_47
    · rw [if_pos c4] at hf
      refine lv_bipush (v := (-2)) hx hb dX4_pool_19 (by decide) ?_
      obtain rfl := Option.some.inj hf
      exact hret rfl rfl rfl hP hD hS dX4_pool_21
def f_X4_wish (vi : Nat → Int32) (vwc : Int32) (p0 : Int32) : Option (Int32 × (Nat → Int32) × Int32) := bd (f_X4_isSet p0) (fun o1 => if o1 = 0 then (some ((-2), vi, vwc)) else (bd (f_X4_isWithin vwc (0) (7)) (fun o3 => if o3 = 0 then (some ((-4), vi, vwc)) else (chk vwc 8 (some ((vwc + 1), (upd vi (vwc).toNatClampNeg p0), (vwc + 1)))))))
theorem inX4_wish_X3 : ∀ w ∈ wsX30, w ∈ wsX4_wish := fun w h => List.mem_cons_of_mem _ (List.mem_append_right _ h)
theorem inX4_wish_X4 : ∀ w ∈ wsX40, w ∈ wsX4_wish := fun w h => List.mem_cons_of_mem _ (List.mem_append_left _ (List.mem_append_right _ h))
theorem yd_X4_wish : yX4_wish.cls ≠ "java/lang/invoke/MethodHandle" ∧ yX4_wish.cls ≠ "java/lang/invoke/VarHandle" ∧ (parseMethodDescriptor yX4_wish.desc).map (fun d => d.parameters.length) = some 1 := by decide +kernel
abbrev rmX4_wish : Room := { frames := 2, cells := 0, slots := 0, locals := 42 }
set_option maxHeartbeats 4000000 in
set_option maxRecDepth 100000 in
theorem k_X4_wish (l : Launch) (D : va_G) (K : Nat → ClassId) (ax : Nat) (q : Nat → Nat) (zyearShop : Nat) (zimages : Nat) (zsigns : Nat) (zdays : Nat) (zmeans : Nat) (vsgc : Int32) (vw : Nat → Int32) (vk : Nat → Int32) (vr : Nat → Int32) (vp : Nat → Int32) (vb : Nat → Int32) (vi : Nat → Int32) (vwc : Int32) (vl : Nat → Int32) (vg : Nat → Int32) (vo : Nat → Int32) (vsc : Int32) (p0 : Int32) (out : Int32 × (Nat → Int32) × Int32) (hf : f_X4_wish vi vwc p0 = some out) : kI l D K .int yX4_wish wsX4_wish rmX4_wish [.ref ax, .int p0] ((xoW ax (q 0) zyearShop zimages zsigns zdays zmeans vsgc) ++ (shW K q vw vk vr vp vb vi vwc vl vg vo vsc)) out.1 ((xoW ax (q 0) zyearShop zimages zsigns zdays zmeans vsgc) ++ (shW K q vw vk vr vp vb out.2.1 out.2.2 vl vg vo vsc)) := by
  refine kI.of (cc := cX4_wish) (maxL := 2) (by decide) rfl (Nat.le_of_ble_eq_true rfl) ?_
  intro p e s m args below meth c A H0 Q ls hx hb hml hown hts hK hN hA hP hD hS hl hret
  have hown : s.vm.findClass RX4 = some m.cls := hown
  have hl : lv_has ls 2 [(0, .ref ax), (1, .int p0)] := hl
  generalize hH : H0 = H at hP ⊢
  have hS : va_S A H0 H [] := by rw [← hH]; exact hS
  clear hH
  unfold f_X4_wish at hf
  refine lv_iload_n hx hb dX4_wish_0 rfl (lv_at hl 1 rfl) ?_
  obtain ⟨o1, ho1, hf⟩ := bd_el hf
  refine kc0_i (D := D) (va_runS (As := [.int p0]) (rest := []) ⟨hx, hb, hml, hown, hts⟩ ((k_X4_isSet l D K p0 o1 ho1) H.size) (va_cwS 1 hts gX4_wish_X4_isSet rfl rfl rfl yd_X4_isSet ⟨Nat.le_of_ble_eq_true rfl, Nat.le_of_ble_eq_true rfl⟩) (kPreS va_P_nil (va_D_nil (A := fun _ => True)) hK hN) rfl rfl hl.1 rfl (lv_room (Nat.le_of_ble_eq_true rfl)) dX4_wish_1 ⟨Nat.le_of_ble_eq_true rfl, Nat.le_of_ble_eq_true rfl⟩) hP hS hA (fun hzo1 H locs hP hS => ?_)
  refine lv_if_ne (tgt := 10) hx hb dX4_wish_4 (by decide) (fun c2 => ?_) (fun c2 => ?_)
  · rw [if_neg c2] at hf
    refine lv_aload_n hx hb dX4_wish_10 rfl (lv_at hl 0 rfl) ?_
    refine va_get (D := D) (ci := 4) (v := .ref (q 0)) (C := RX4) (T := TX4) (N := 7) hx hb hts inX4_wish_X4 hown hK hP 0 rfl rfl 0 (by decide) (hts (.fieldLink RX4 10 "WordScales" "shop" "LWordScales$Shop;") (List.mem_of_getElem? (i := 1) rfl)) (fun _ h9 => h9) rfl dX4_wish_11 ?_
    refine va_getN (D := D) (host := "WordScales") (ci := 3) (v := .int vwc) (C := RX3) (T := TX3) (N := 11) hx hb hts inX4_wish_X3 hown hK hP 1 rfl rfl 6 (by decide) (va_Nw.use rfl (hN _ (List.mem_of_getElem? (i := 8) rfl))) (fun _ h9 => h9) rfl dX4_wish_14 ?_
    refine lv_iconst (v := 0) hx hb dX4_wish_17 (by decide) ?_
    refine lv_bipush (v := 7) hx hb dX4_wish_18 (by decide) ?_
    obtain ⟨o3, ho3, hf⟩ := bd_el hf
    refine kc0_i (D := D) (va_runS (As := [.int vwc, .int 0, .int 7]) (rest := []) ⟨hx, hb, hml, hown, hts⟩ ((k_X4_isWithin l D K vwc (0) (7) o3 ho3) H.size) (va_cwS 3 hts gX4_wish_X4_isWithin rfl rfl rfl yd_X4_isWithin ⟨Nat.le_of_ble_eq_true rfl, Nat.le_of_ble_eq_true rfl⟩) (kPreS va_P_nil (va_D_nil (A := fun _ => True)) hK hN) rfl rfl hl.1 rfl (lv_room (Nat.le_of_ble_eq_true rfl)) dX4_wish_20 ⟨Nat.le_of_ble_eq_true rfl, Nat.le_of_ble_eq_true rfl⟩) hP hS hA (fun hzo3 H locs hP hS => ?_)
    refine lv_if_ne (tgt := 29) hx hb dX4_wish_23 (by decide) (fun c4 => ?_) (fun c4 => ?_)
    · rw [if_neg c4] at hf
      refine lv_aload_n hx hb dX4_wish_29 rfl (lv_at hl 0 rfl) ?_
      refine va_get (D := D) (ci := 4) (v := .ref (q 0)) (C := RX4) (T := TX4) (N := 7) hx hb hts inX4_wish_X4 hown hK hP 0 rfl rfl 0 (by decide) (hts (.fieldLink RX4 10 "WordScales" "shop" "LWordScales$Shop;") (List.mem_of_getElem? (i := 1) rfl)) (fun _ h9 => h9) rfl dX4_wish_30 ?_
      refine va_getN (D := D) (host := "WordScales") (ci := 3) (v := .ref (q 6)) (C := RX3) (T := TX3) (N := 11) hx hb hts inX4_wish_X3 hown hK hP 1 rfl rfl 5 (by decide) (va_Nw.use rfl (hN _ (List.mem_of_getElem? (i := 7) rfl))) (fun _ h9 => h9) rfl dX4_wish_33 ?_
      refine lv_aload_n hx hb dX4_wish_36 rfl (lv_at hl 0 rfl) ?_
      refine va_get (D := D) (ci := 4) (v := .ref (q 0)) (C := RX4) (T := TX4) (N := 7) hx hb hts inX4_wish_X4 hown hK hP 0 rfl rfl 0 (by decide) (hts (.fieldLink RX4 10 "WordScales" "shop" "LWordScales$Shop;") (List.mem_of_getElem? (i := 1) rfl)) (fun _ h9 => h9) rfl dX4_wish_37 ?_
      refine va_getN (D := D) (host := "WordScales") (ci := 3) (v := .int vwc) (C := RX3) (T := TX3) (N := 11) hx hb hts inX4_wish_X3 hown hK hP 1 rfl rfl 6 (by decide) (va_Nw.use rfl (hN _ (List.mem_of_getElem? (i := 8) rfl))) (fun _ h9 => h9) rfl dX4_wish_40 ?_
      refine lv_iload_n hx hb dX4_wish_43 rfl (lv_at hl 1 rfl) ?_
      obtain ⟨v5, hf⟩ := chk_el hf
      refine va_iast (D := D) (f := vi) hx hb hK hP hD hS 7 0 rfl rfl v5 dX4_wish_44 (fun H locs hP hD hS => ?_)
      have hP : va_P D vwCl ((xoW ax (q 0) zyearShop zimages zsigns zdays zmeans vsgc) ++ (shW K q vw vk vr vp vb (upd vi (vwc).toNatClampNeg p0) vwc vl vg vo vsc)) H := hP
      have hD : va_D A ((xoW ax (q 0) zyearShop zimages zsigns zdays zmeans vsgc) ++ (shW K q vw vk vr vp vb (upd vi (vwc).toNatClampNeg p0) vwc vl vg vo vsc)) := hD
      refine lv_aload_n hx hb dX4_wish_45 rfl (lv_at hl 0 rfl) ?_
      refine va_get (D := D) (ci := 4) (v := .ref (q 0)) (C := RX4) (T := TX4) (N := 7) hx hb hts inX4_wish_X4 hown hK hP 0 rfl rfl 0 (by decide) (hts (.fieldLink RX4 10 "WordScales" "shop" "LWordScales$Shop;") (List.mem_of_getElem? (i := 1) rfl)) (fun _ h9 => h9) rfl dX4_wish_46 ?_
      refine lv_dup hx hb dX4_wish_49 rfl ?_
      refine va_getN (D := D) (host := "WordScales") (ci := 3) (v := .int vwc) (C := RX3) (T := TX3) (N := 11) hx hb hts inX4_wish_X3 hown hK hP 1 rfl rfl 6 (by decide) (va_Nw.use rfl (hN _ (List.mem_of_getElem? (i := 8) rfl))) (fun _ h9 => h9) rfl dX4_wish_50 ?_
      refine lv_iconst (v := 1) hx hb dX4_wish_53 (by decide) ?_
      refine lv_iadd hx hb dX4_wish_54 ?_
      refine va_putN (D := D) (host := "WordScales") (ci := 3) (v := .int (vwc + 1)) (ty := .int) (C := RX3) (T := TX3) (N := 11) hx hb hts inX4_wish_X3 tyX3 tyX3_ok nmX3 hown hK hP hD hS 1 rfl rfl 6 (by decide) (va_Nw.use rfl (hN _ (List.mem_of_getElem? (i := 8) rfl))) (fun _ h9 => h9) rfl (tyX3_ok 6 (by decide)) rfl rfl (Nat.le_of_ble_eq_true rfl) dX4_wish_55 (fun H locs hP hD hS => ?_)
      have hP : va_P D vwCl ((xoW ax (q 0) zyearShop zimages zsigns zdays zmeans vsgc) ++ (shW K q vw vk vr vp vb (upd vi (vwc).toNatClampNeg p0) (vwc + 1) vl vg vo vsc)) H := hP
      have hD : va_D A ((xoW ax (q 0) zyearShop zimages zsigns zdays zmeans vsgc) ++ (shW K q vw vk vr vp vb (upd vi (vwc).toNatClampNeg p0) (vwc + 1) vl vg vo vsc)) := hD
      refine lv_aload_n hx hb dX4_wish_58 rfl (lv_at hl 0 rfl) ?_
      refine va_get (D := D) (ci := 4) (v := .ref (q 0)) (C := RX4) (T := TX4) (N := 7) hx hb hts inX4_wish_X4 hown hK hP 0 rfl rfl 0 (by decide) (hts (.fieldLink RX4 10 "WordScales" "shop" "LWordScales$Shop;") (List.mem_of_getElem? (i := 1) rfl)) (fun _ h9 => h9) rfl dX4_wish_59 ?_
      refine va_getN (D := D) (host := "WordScales") (ci := 3) (v := .int (vwc + 1)) (C := RX3) (T := TX3) (N := 11) hx hb hts inX4_wish_X3 hown hK hP 1 rfl rfl 6 (by decide) (va_Nw.use rfl (hN _ (List.mem_of_getElem? (i := 8) rfl))) (fun _ h9 => h9) rfl dX4_wish_62 ?_
      obtain rfl := Option.some.inj hf
      exact hret rfl rfl rfl hP hD hS dX4_wish_65
    · rw [if_pos c4] at hf
      refine lv_bipush (v := (-4)) hx hb dX4_wish_26 (by decide) ?_
      obtain rfl := Option.some.inj hf
      exact hret rfl rfl rfl hP hD hS dX4_wish_28
  · rw [if_pos c2] at hf
    refine lv_bipush (v := (-2)) hx hb dX4_wish_7 (by decide) ?_
    obtain rfl := Option.some.inj hf
    exact hret rfl rfl rfl hP hD hS dX4_wish_9
def f_X4_unwish (vwc : Int32) : Int32 × Int32 := (vwc, 0)
theorem inX4_unwish_X3 : ∀ w ∈ wsX30, w ∈ wsX4_unwish := fun w h => List.mem_cons_of_mem _ (List.mem_append_right _ h)
theorem inX4_unwish_X4 : ∀ w ∈ wsX40, w ∈ wsX4_unwish := fun w h => List.mem_cons_of_mem _ (List.mem_append_left _ (List.mem_append_right _ h))
theorem yd_X4_unwish : yX4_unwish.cls ≠ "java/lang/invoke/MethodHandle" ∧ yX4_unwish.cls ≠ "java/lang/invoke/VarHandle" ∧ (parseMethodDescriptor yX4_unwish.desc).map (fun d => d.parameters.length) = some 0 := by decide +kernel
abbrev rmX4_unwish : Room := { frames := 0, cells := 0, slots := 0, locals := 0 }
set_option maxHeartbeats 4000000 in
set_option maxRecDepth 100000 in
theorem k_X4_unwish (l : Launch) (D : va_G) (K : Nat → ClassId) (ax : Nat) (q : Nat → Nat) (zyearShop : Nat) (zimages : Nat) (zsigns : Nat) (zdays : Nat) (zmeans : Nat) (vsgc : Int32) (vw : Nat → Int32) (vk : Nat → Int32) (vr : Nat → Int32) (vp : Nat → Int32) (vb : Nat → Int32) (vi : Nat → Int32) (vwc : Int32) (vl : Nat → Int32) (vg : Nat → Int32) (vo : Nat → Int32) (vsc : Int32) (out : Int32 × Int32) (hf : f_X4_unwish vwc = out) : kI l D K .int yX4_unwish wsX4_unwish rmX4_unwish [.ref ax] ((xoW ax (q 0) zyearShop zimages zsigns zdays zmeans vsgc) ++ (shW K q vw vk vr vp vb vi vwc vl vg vo vsc)) out.1 ((xoW ax (q 0) zyearShop zimages zsigns zdays zmeans vsgc) ++ (shW K q vw vk vr vp vb vi out.2 vl vg vo vsc)) := by
  refine kI.of (cc := cX4_unwish) (maxL := 2) (by decide) rfl (Nat.le_of_ble_eq_true rfl) ?_
  intro p e s m args below meth c A H0 Q ls hx hb hml hown hts hK hN hA hP hD hS hl hret
  have hown : s.vm.findClass RX4 = some m.cls := hown
  have hl : lv_has ls 2 [(0, .ref ax)] := hl
  generalize hH : H0 = H at hP ⊢
  have hS : va_S A H0 H [] := by rw [← hH]; exact hS
  clear hH
  unfold f_X4_unwish at hf
  refine lv_aload_n hx hb dX4_unwish_0 rfl (lv_at hl 0 rfl) ?_
  refine va_get (D := D) (ci := 4) (v := .ref (q 0)) (C := RX4) (T := TX4) (N := 7) hx hb hts inX4_unwish_X4 hown hK hP 0 rfl rfl 0 (by decide) (hts (.fieldLink RX4 10 "WordScales" "shop" "LWordScales$Shop;") (List.mem_of_getElem? (i := 1) rfl)) (fun _ h9 => h9) rfl dX4_unwish_1 ?_
  refine va_getN (D := D) (host := "WordScales") (ci := 3) (v := .int vwc) (C := RX3) (T := TX3) (N := 11) hx hb hts inX4_unwish_X3 hown hK hP 1 rfl rfl 6 (by decide) (va_Nw.use rfl (hN _ (List.mem_of_getElem? (i := 8) rfl))) (fun _ h9 => h9) rfl dX4_unwish_4 ?_
  refine lv_istore_n (lv' := [(1, .int vwc), (0, .ref ax)]) hx hb dX4_unwish_7 rfl hl (by decide) rfl (fun ls hl => ?_)
  refine lv_aload_n hx hb dX4_unwish_8 rfl (lv_at hl 1 rfl) ?_
  refine va_get (D := D) (ci := 4) (v := .ref (q 0)) (C := RX4) (T := TX4) (N := 7) hx hb hts inX4_unwish_X4 hown hK hP 0 rfl rfl 0 (by decide) (hts (.fieldLink RX4 10 "WordScales" "shop" "LWordScales$Shop;") (List.mem_of_getElem? (i := 1) rfl)) (fun _ h9 => h9) rfl dX4_unwish_9 ?_
  refine lv_iconst (v := 0) hx hb dX4_unwish_12 (by decide) ?_
  refine va_putN (D := D) (host := "WordScales") (ci := 3) (v := .int 0) (ty := .int) (C := RX3) (T := TX3) (N := 11) hx hb hts inX4_unwish_X3 tyX3 tyX3_ok nmX3 hown hK hP hD hS 1 rfl rfl 6 (by decide) (va_Nw.use rfl (hN _ (List.mem_of_getElem? (i := 8) rfl))) (fun _ h9 => h9) rfl (tyX3_ok 6 (by decide)) rfl rfl (Nat.le_of_ble_eq_true rfl) dX4_unwish_13 (fun H locs hP hD hS => ?_)
  have hP : va_P D vwCl ((xoW ax (q 0) zyearShop zimages zsigns zdays zmeans vsgc) ++ (shW K q vw vk vr vp vb vi 0 vl vg vo vsc)) H := hP
  have hD : va_D A ((xoW ax (q 0) zyearShop zimages zsigns zdays zmeans vsgc) ++ (shW K q vw vk vr vp vb vi 0 vl vg vo vsc)) := hD
  refine lv_iload_n hx hb dX4_unwish_16 rfl (lv_at hl 0 rfl) ?_
  subst hf
  exact hret rfl rfl rfl hP hD hS dX4_unwish_17
def s_X4_fewestWords_8 (vi : Nat → Int32) (vwc : Int32) (x : Int32 × Int32 × Int32) : Option ((Int32 × Int32 × Int32) ⊕ (Int32 × Int32 × Int32)) := if 4095 < x.2.2 then (some (.inr (x.1, x.2.1, x.2.2))) else (bd (f_J6_bitCount_0f7a4 x.2.2) (fun o3 => if x.2.1 ≤ o3 then (some (.inl (x.1, x.2.1, (x.2.2 + 1)))) else (ob (f_X3_grantsAll vi vwc x.2.2) (fun o5 => if o5 = 0 then (some (.inl (x.1, x.2.1, (x.2.2 + 1)))) else (some (.inl (x.2.2, o3, (x.2.2 + 1))))))))
def f_X4_fewestWords (vi : Nat → Int32) (vwc : Int32) : Option (Int32) := ob (wh (s_X4_fewestWords_8 vi vwc) 5000 ((-6), 13, 0)) (fun r1 => some r1.1)
theorem inX4_fewestWords_X4 : ∀ w ∈ wsX40, w ∈ wsX4_fewestWords := fun w h => List.mem_cons_of_mem _ (List.mem_append_left _ (List.mem_append_right _ h))
theorem yd_X4_fewestWords : yX4_fewestWords.cls ≠ "java/lang/invoke/MethodHandle" ∧ yX4_fewestWords.cls ≠ "java/lang/invoke/VarHandle" ∧ (parseMethodDescriptor yX4_fewestWords.desc).map (fun d => d.parameters.length) = some 0 := by decide +kernel
abbrev rmX4_fewestWords : Room := { frames := 1, cells := 0, slots := 0, locals := 22 }
set_option maxHeartbeats 4000000 in
set_option maxRecDepth 100000 in
theorem k_X4_fewestWords (l : Launch) (D : va_G) (K : Nat → ClassId) (ax : Nat) (q : Nat → Nat) (zyearShop : Nat) (zimages : Nat) (zsigns : Nat) (zdays : Nat) (zmeans : Nat) (vsgc : Int32) (vw : Nat → Int32) (vk : Nat → Int32) (vr : Nat → Int32) (vp : Nat → Int32) (vb : Nat → Int32) (vi : Nat → Int32) (vwc : Int32) (vl : Nat → Int32) (vg : Nat → Int32) (vo : Nat → Int32) (vsc : Int32) (out : Int32) (hf : f_X4_fewestWords vi vwc = some out) : kI l D K .int yX4_fewestWords wsX4_fewestWords rmX4_fewestWords [.ref ax] ((xoW ax (q 0) zyearShop zimages zsigns zdays zmeans vsgc) ++ (shW K q vw vk vr vp vb vi vwc vl vg vo vsc)) out ((xoW ax (q 0) zyearShop zimages zsigns zdays zmeans vsgc) ++ (shW K q vw vk vr vp vb vi vwc vl vg vo vsc)) := by
  refine kI.of (cc := cX4_fewestWords) (maxL := 5) (by decide) rfl (Nat.le_of_ble_eq_true rfl) ?_
  intro p e s m args below meth c A H0 Q ls hx hb hml hown hts hK hN hA hP hD hS hl hret
  have hown : s.vm.findClass RX4 = some m.cls := hown
  have hl : lv_has ls 5 [(0, .ref ax)] := hl
  generalize hH : H0 = H at hP ⊢
  have hS : va_S A H0 H [] := by rw [← hH]; exact hS
  clear hH
  unfold f_X4_fewestWords at hf
  refine lv_bipush (v := (-6)) hx hb dX4_fewestWords_0 (by decide) ?_
  refine lv_istore_n (lv' := [(1, .int (-6)), (0, .ref ax)]) hx hb dX4_fewestWords_2 rfl hl (by decide) rfl (fun ls hl => ?_)
  refine lv_bipush (v := 13) hx hb dX4_fewestWords_3 (by decide) ?_
  refine lv_istore_n (lv' := [(2, .int 13), (1, .int (-6)), (0, .ref ax)]) hx hb dX4_fewestWords_5 rfl hl (by decide) rfl (fun ls hl => ?_)
  refine lv_iconst (v := 0) hx hb dX4_fewestWords_6 (by decide) ?_
  refine lv_istore_n (lv' := [(3, .int 0), (2, .int 13), (1, .int (-6)), (0, .ref ax)]) hx hb dX4_fewestWords_7 rfl hl (by decide) rfl (fun ls hl => ?_)
  obtain ⟨r1, hr1, hf⟩ := ob_el hf
  have post8 : ∀ (e8_l1 : Int32) (e8_l2 : Int32) (e8_l3 : Int32) (H : Heap) (locs : List Loc) (ls : Array Slot), (some e8_l1) = some out → va_P D vwCl ((xoW ax (q 0) zyearShop zimages zsigns zdays zmeans vsgc) ++ (shW K q vw vk vr vp vb vi vwc vl vg vo vsc)) H → va_D A ((xoW ax (q 0) zyearShop zimages zsigns zdays zmeans vsgc) ++ (shW K q vw vk vr vp vb vi vwc vl vg vo vsc)) → va_S A H0 H locs → lv_has ls 5 [(3, .int e8_l3), (2, .int e8_l2), (1, .int e8_l1), (0, .ref ax)] → W p l e rmX4_fewestWords s m args below meth c H locs 0 0 Q (F0 m 49 ls []) := by
    intro e8_l1 e8_l2 e8_l3 H locs ls hf hP hD hS hl
    refine lv_iload_n hx hb dX4_fewestWords_49 rfl (lv_at hl 2 rfl) ?_
    obtain rfl := Option.some.inj hf
    exact hret rfl rfl rfl hP hD hS dX4_fewestWords_50
  have lp8 : ∀ (fu : Nat) (x8_l1 : Int32) (x8_l2 : Int32) (x8_l3 : Int32) (H : Heap) (locs : List Loc) (ls : Array Slot), wh (s_X4_fewestWords_8 vi vwc) fu (x8_l1, x8_l2, x8_l3) = some r1 → va_P D vwCl ((xoW ax (q 0) zyearShop zimages zsigns zdays zmeans vsgc) ++ (shW K q vw vk vr vp vb vi vwc vl vg vo vsc)) H → va_D A ((xoW ax (q 0) zyearShop zimages zsigns zdays zmeans vsgc) ++ (shW K q vw vk vr vp vb vi vwc vl vg vo vsc)) → va_S A H0 H locs → lv_has ls 5 [(3, .int x8_l3), (2, .int x8_l2), (1, .int x8_l1), (0, .ref ax)] → W p l e rmX4_fewestWords s m args below meth c H locs 0 0 Q (F0 m 8 ls []) := by
    intro fu
    induction fu with
    | zero => intro x8_l1 x8_l2 x8_l3 H locs ls hw8; cases hw8
    | succ fu ih8 =>
      intro x8_l1 x8_l2 x8_l3 H locs ls hw8 hP hD hS hl
      obtain ⟨o8_, hs8, hw8⟩ := wh_el hw8
      unfold s_X4_fewestWords_8 at hs8
      dsimp only at hs8
      refine lv_iload_n hx hb dX4_fewestWords_8 rfl (lv_at hl 0 rfl) ?_
      refine lv_sipush (v := 4095) hx hb dX4_fewestWords_9 (by decide) ?_
      refine lv_icmp_gt (tgt := 49) hx hb dX4_fewestWords_12 (by decide) (fun c2 => ?_) (fun c2 => ?_)
      · rw [if_pos c2] at hs8
        obtain rfl := Option.some.inj hs8
        have e9 := Option.some.inj hw8
        rw [← e9] at hf
        exact post8 _ _ _ _ _ _ hf hP hD hS (lv_sub hl [0, 1, 2, 3] rfl)
      · rw [if_neg c2] at hs8
        refine lv_iload_n hx hb dX4_fewestWords_15 rfl (lv_at hl 0 rfl) ?_
        obtain ⟨o3, ho3, hs8⟩ := bd_el hs8
        refine kc0_i (D := D) (va_runS (As := [.int x8_l3]) (rest := []) ⟨hx, hb, hml, hown, hts⟩ ((k_J6_bitCount_0f7a4 l D K x8_l3 o3 ho3) H.size) (va_cwS 1 hts gX4_fewestWords_J6_bitCount_0f7a4 rfl rfl rfl yd_J6_bitCount_0f7a4 ⟨Nat.le_of_ble_eq_true rfl, Nat.le_of_ble_eq_true rfl⟩) (kPreS va_P_nil (va_D_nil (A := fun _ => True)) hK hN) rfl rfl hl.1 rfl (lv_room (Nat.le_of_ble_eq_true rfl)) dX4_fewestWords_16 ⟨Nat.le_of_ble_eq_true rfl, Nat.le_of_ble_eq_true rfl⟩) hP hS hA (fun hzo3 H locs hP hS => ?_)
        refine lv_istore (lv' := [(4, .int o3), (3, .int x8_l3), (2, .int x8_l2), (1, .int x8_l1), (0, .ref ax)]) hx hb dX4_fewestWords_19 hl (by decide) rfl (fun ls hl => ?_)
        refine lv_iload hx hb dX4_fewestWords_21 (lv_at hl 0 rfl) ?_
        refine lv_iload_n hx hb dX4_fewestWords_23 rfl (lv_at hl 2 rfl) ?_
        refine lv_icmp_ge (tgt := 43) hx hb dX4_fewestWords_24 (by decide) (fun c4 => ?_) (fun c4 => ?_)
        · rw [if_pos c4] at hs8
          refine lv_iinc (v := (x8_l3 + 1)) (lv' := [(3, .int (x8_l3 + 1)), (4, .int o3), (2, .int x8_l2), (1, .int x8_l1), (0, .ref ax)]) hx hb dX4_fewestWords_43 hl (k := 1) rfl (by rfl) (by decide) rfl (fun ls hl => ?_)
          refine lv_goto (tgt := 8) hx hb dX4_fewestWords_46 (by decide) ?_
          obtain rfl := Option.some.inj hs8
          exact ih8 _ _ _ _ _ _ hw8 hP hD hS (lv_sub hl [0, 2, 3, 4] rfl)
        · rw [if_neg c4] at hs8
          refine lv_aload_n hx hb dX4_fewestWords_27 rfl (lv_at hl 4 rfl) ?_
          refine va_get (D := D) (ci := 4) (v := .ref (q 0)) (C := RX4) (T := TX4) (N := 7) hx hb hts inX4_fewestWords_X4 hown hK hP 0 rfl rfl 0 (by decide) (hts (.fieldLink RX4 10 "WordScales" "shop" "LWordScales$Shop;") (List.mem_of_getElem? (i := 1) rfl)) (fun _ h9 => h9) rfl dX4_fewestWords_28 ?_
          refine lv_iload_n hx hb dX4_fewestWords_31 rfl (lv_at hl 1 rfl) ?_
          obtain ⟨o5, ho5, hs8⟩ := ob_el hs8
          have hPc : va_P D vwCl (shW K q vw vk vr vp vb vi vwc vl vg vo vsc) H := hP.sub [1, 2, 3, 4, 5, 6, 7, 8, 9, 10] rfl
          have hDc : va_D A (shW K q vw vk vr vp vb vi vwc vl vg vo vsc) := hD.sub [1, 2, 3, 4, 5, 6, 7, 8, 9, 10] (by decide) rfl
          refine kcg_i (D := D) (wc := (shW K q vw vk vr vp vb vi vwc vl vg vo vsc)) (wc' := (shW K q vw vk vr vp vb vi vwc vl vg vo vsc)) (wr := [0].filterMap (fun i => (((xoW ax (q 0) zyearShop zimages zsigns zdays zmeans vsgc) ++ (shW K q vw vk vr vp vb vi vwc vl vg vo vsc)) : va_W)[i]?)) (ws2 := ((xoW ax (q 0) zyearShop zimages zsigns zdays zmeans vsgc) ++ (shW K q vw vk vr vp vb vi vwc vl vg vo vsc))) (va_runVN (As := [.int x8_l3]) (rest := []) ⟨hx, hb, hml, hown, hts⟩ ((k_X3_grantsAll l D K q vw vk vr vp vb vi vwc vl vg vo vsc x8_l3 o5 ho5) H.size) ⟨va_cnB 1 hts gX4_fewestWords_X3_grantsAll_n220 rfl rfl rfl (hN _ (List.mem_of_getElem? (i := 57) rfl)) (hts (.initialized RX3) (List.mem_of_getElem? (i := 10) rfl)) yd_X3_grantsAll ⟨Nat.le_of_ble_eq_true rfl, Nat.le_of_ble_eq_true rfl⟩, (hts (.instanceMethod yX3_grantsAll) (List.mem_of_getElem? (i := 9) rfl)), (hts (.selects RX3 yX3_grantsAll yX3_grantsAll) (List.mem_of_getElem? (i := 11) rfl))⟩ (kPreV (ci := 3) (q0 := 1) hP rfl rfl hPc hDc hK hN) rfl rfl hl.1 rfl (lv_room (Nat.le_of_ble_eq_true rfl)) dX4_fewestWords_32 ⟨Nat.le_of_ble_eq_true rfl, Nat.le_of_ble_eq_true rfl⟩) hP hD hS hA [1, 2, 3, 4, 5, 6, 7, 8, 9, 10] [0] [0, 1, 2, 3, 4, 5, 6, 7, 8, 9, 10] rfl rfl (by decide) (by decide) rfl (by decide) (fun hzo5 H locs hP hD hS => ?_)
          refine lv_if_eq (tgt := 43) hx hb dX4_fewestWords_35 (by decide) (fun c6 => ?_) (fun c6 => ?_)
          · rw [if_pos c6] at hs8
            refine lv_iinc (v := (x8_l3 + 1)) (lv' := [(3, .int (x8_l3 + 1)), (4, .int o3), (2, .int x8_l2), (1, .int x8_l1), (0, .ref ax)]) hx hb dX4_fewestWords_43 hl (k := 1) rfl (by rfl) (by decide) rfl (fun ls hl => ?_)
            refine lv_goto (tgt := 8) hx hb dX4_fewestWords_46 (by decide) ?_
            obtain rfl := Option.some.inj hs8
            exact ih8 _ _ _ _ _ _ hw8 hP hD hS (lv_sub hl [0, 2, 3, 4] rfl)
          · rw [if_neg c6] at hs8
            refine lv_iload_n hx hb dX4_fewestWords_38 rfl (lv_at hl 1 rfl) ?_
            refine lv_istore_n (lv' := [(1, .int x8_l3), (4, .int o3), (3, .int x8_l3), (2, .int x8_l2), (0, .ref ax)]) hx hb dX4_fewestWords_39 rfl hl (by decide) rfl (fun ls hl => ?_)
            refine lv_iload hx hb dX4_fewestWords_40 (lv_at hl 1 rfl) ?_
            refine lv_istore_n (lv' := [(2, .int o3), (1, .int x8_l3), (4, .int o3), (3, .int x8_l3), (0, .ref ax)]) hx hb dX4_fewestWords_42 rfl hl (by decide) rfl (fun ls hl => ?_)
            refine lv_iinc (v := (x8_l3 + 1)) (lv' := [(3, .int (x8_l3 + 1)), (2, .int o3), (1, .int x8_l3), (4, .int o3), (0, .ref ax)]) hx hb dX4_fewestWords_43 hl (k := 3) rfl (by rfl) (by decide) rfl (fun ls hl => ?_)
            refine lv_goto (tgt := 8) hx hb dX4_fewestWords_46 (by decide) ?_
            obtain rfl := Option.some.inj hs8
            exact ih8 _ _ _ _ _ _ hw8 hP hD hS (lv_sub hl [0, 1, 2, 4] rfl)
  exact lp8 5000 _ _ _ _ _ _ hr1 hP hD hS (lv_sub hl [0, 1, 2, 3] rfl)
def f_X4_nine (vi : Nat → Int32) (vwc : Int32) (p0 : Int32) : Option (Int32) := bd (f_X4_isWithin p0 (0) (1)) (fun o1 => if o1 = 0 then (some (-2)) else (ob (f_X4_fewestWords vi vwc) (fun o3 => if p0 = 1 then (some o3) else (if o3 = (-6) then (some o3) else (bd (f_J6_bitCount_0f7a4 o3) (fun o6 => some o6))))))
theorem yd_X4_nine : yX4_nine.cls ≠ "java/lang/invoke/MethodHandle" ∧ yX4_nine.cls ≠ "java/lang/invoke/VarHandle" ∧ (parseMethodDescriptor yX4_nine.desc).map (fun d => d.parameters.length) = some 1 := by decide +kernel
abbrev rmX4_nine : Room := { frames := 2, cells := 0, slots := 0, locals := 46 }
set_option maxHeartbeats 4000000 in
set_option maxRecDepth 100000 in
theorem k_X4_nine (l : Launch) (D : va_G) (K : Nat → ClassId) (ax : Nat) (q : Nat → Nat) (zyearShop : Nat) (zimages : Nat) (zsigns : Nat) (zdays : Nat) (zmeans : Nat) (vsgc : Int32) (vw : Nat → Int32) (vk : Nat → Int32) (vr : Nat → Int32) (vp : Nat → Int32) (vb : Nat → Int32) (vi : Nat → Int32) (vwc : Int32) (vl : Nat → Int32) (vg : Nat → Int32) (vo : Nat → Int32) (vsc : Int32) (p0 : Int32) (out : Int32) (hf : f_X4_nine vi vwc p0 = some out) : kI l D K .int yX4_nine wsX4_nine rmX4_nine [.ref ax, .int p0] ((xoW ax (q 0) zyearShop zimages zsigns zdays zmeans vsgc) ++ (shW K q vw vk vr vp vb vi vwc vl vg vo vsc)) out ((xoW ax (q 0) zyearShop zimages zsigns zdays zmeans vsgc) ++ (shW K q vw vk vr vp vb vi vwc vl vg vo vsc)) := by
  refine kI.of (cc := cX4_nine) (maxL := 3) (by decide) rfl (Nat.le_of_ble_eq_true rfl) ?_
  intro p e s m args below meth c A H0 Q ls hx hb hml hown hts hK hN hA hP hD hS hl hret
  have hown : s.vm.findClass RX4 = some m.cls := hown
  have hl : lv_has ls 3 [(0, .ref ax), (1, .int p0)] := hl
  generalize hH : H0 = H at hP ⊢
  have hS : va_S A H0 H [] := by rw [← hH]; exact hS
  clear hH
  unfold f_X4_nine at hf
  refine lv_iload_n hx hb dX4_nine_0 rfl (lv_at hl 1 rfl) ?_
  refine lv_iconst (v := 0) hx hb dX4_nine_1 (by decide) ?_
  refine lv_iconst (v := 1) hx hb dX4_nine_2 (by decide) ?_
  obtain ⟨o1, ho1, hf⟩ := bd_el hf
  refine kc0_i (D := D) (va_runS (As := [.int p0, .int 0, .int 1]) (rest := []) ⟨hx, hb, hml, hown, hts⟩ ((k_X4_isWithin l D K p0 (0) (1) o1 ho1) H.size) (va_cwS 3 hts gX4_nine_X4_isWithin rfl rfl rfl yd_X4_isWithin ⟨Nat.le_of_ble_eq_true rfl, Nat.le_of_ble_eq_true rfl⟩) (kPreS va_P_nil (va_D_nil (A := fun _ => True)) hK hN) rfl rfl hl.1 rfl (lv_room (Nat.le_of_ble_eq_true rfl)) dX4_nine_3 ⟨Nat.le_of_ble_eq_true rfl, Nat.le_of_ble_eq_true rfl⟩) hP hS hA (fun hzo1 H locs hP hS => ?_)
  refine lv_if_ne (tgt := 12) hx hb dX4_nine_6 (by decide) (fun c2 => ?_) (fun c2 => ?_)
  · rw [if_neg c2] at hf
    refine lv_aload_n hx hb dX4_nine_12 rfl (lv_at hl 0 rfl) ?_
    obtain ⟨o3, ho3, hf⟩ := ob_el hf
    refine kcw_i (D := D) (va_runV (As := []) (rest := []) ⟨hx, hb, hml, hown, hts⟩ ((k_X4_fewestWords l D K ax q zyearShop zimages zsigns zdays zmeans vsgc vw vk vr vp vb vi vwc vl vg vo vsc o3 ho3) H.size) (cwV 0 hts gX4_nine_X4_fewestWords rfl rfl rfl ⟨rfl, yd_X4_fewestWords⟩ ⟨Nat.le_of_ble_eq_true rfl, Nat.le_of_ble_eq_true rfl⟩) (kPreV (ci := 4) (q0 := 0) hP rfl rfl hP hD hK hN) rfl rfl hl.1 rfl (lv_room (Nat.le_of_ble_eq_true rfl)) dX4_nine_13 ⟨Nat.le_of_ble_eq_true rfl, Nat.le_of_ble_eq_true rfl⟩) hD hS hA (fun hzo3 H locs hP hD hS => ?_)
    have hP : va_P D vwCl ((xoW ax (q 0) zyearShop zimages zsigns zdays zmeans vsgc) ++ (shW K q vw vk vr vp vb vi vwc vl vg vo vsc)) H := hP
    have hD : va_D A ((xoW ax (q 0) zyearShop zimages zsigns zdays zmeans vsgc) ++ (shW K q vw vk vr vp vb vi vwc vl vg vo vsc)) := hD
    refine lv_istore_n (lv' := [(2, .int o3), (0, .ref ax), (1, .int p0)]) hx hb dX4_nine_16 rfl hl (by decide) rfl (fun ls hl => ?_)
    refine lv_iload_n hx hb dX4_nine_17 rfl (lv_at hl 2 rfl) ?_
    refine lv_iconst (v := 1) hx hb dX4_nine_18 (by decide) ?_
    refine lv_icmp_eq (tgt := 28) hx hb dX4_nine_19 (by decide) (fun c4 => ?_) (fun c4 => ?_)
    · rw [if_pos c4] at hf
      refine lv_iload_n hx hb dX4_nine_28 rfl (lv_at hl 0 rfl) ?_
      refine lv_goto (tgt := 36) hx hb dX4_nine_29 (by decide) ?_
      obtain rfl := Option.some.inj hf
      exact hret rfl rfl rfl hP hD hS dX4_nine_36
    · rw [if_neg c4] at hf
      refine lv_iload_n hx hb dX4_nine_22 rfl (lv_at hl 0 rfl) ?_
      refine lv_bipush (v := (-6)) hx hb dX4_nine_23 (by decide) ?_
      refine lv_icmp_ne (tgt := 32) hx hb dX4_nine_25 (by decide) (fun c5 => ?_) (fun c5 => ?_)
      · rw [if_neg c5] at hf
        refine lv_iload_n hx hb dX4_nine_32 rfl (lv_at hl 0 rfl) ?_
        obtain ⟨o6, ho6, hf⟩ := bd_el hf
        refine kc0_i (D := D) (va_runS (As := [.int o3]) (rest := []) ⟨hx, hb, hml, hown, hts⟩ ((k_J6_bitCount_0f7a4 l D K o3 o6 ho6) H.size) (va_cwS 1 hts gX4_nine_J6_bitCount_0f7a4 rfl rfl rfl yd_J6_bitCount_0f7a4 ⟨Nat.le_of_ble_eq_true rfl, Nat.le_of_ble_eq_true rfl⟩) (kPreS va_P_nil (va_D_nil (A := fun _ => True)) hK hN) rfl rfl hl.1 rfl (lv_room (Nat.le_of_ble_eq_true rfl)) dX4_nine_33 ⟨Nat.le_of_ble_eq_true rfl, Nat.le_of_ble_eq_true rfl⟩) hP hS hA (fun hzo6 H locs hP hS => ?_)
        obtain rfl := Option.some.inj hf
        exact hret rfl rfl rfl hP hD hS dX4_nine_36
      · rw [if_pos c5] at hf
        refine lv_iload_n hx hb dX4_nine_28 rfl (lv_at hl 0 rfl) ?_
        refine lv_goto (tgt := 36) hx hb dX4_nine_29 (by decide) ?_
        obtain rfl := Option.some.inj hf
        exact hret rfl rfl rfl hP hD hS dX4_nine_36
  · rw [if_pos c2] at hf
    refine lv_bipush (v := (-2)) hx hb dX4_nine_9 (by decide) ?_
    obtain rfl := Option.some.inj hf
    exact hret rfl rfl rfl hP hD hS dX4_nine_11
def f_X4_seen (vl : Nat → Int32) (vg : Nat → Int32) (vo : Nat → Int32) (vsc : Int32) (p0 : Int32) (p1 : Int32) (p2 : Int32) : Option (Int32 × (Nat → Int32) × (Nat → Int32) × (Nat → Int32) × Int32) := bd (f_X4_isSet p0) (fun o1 => if o1 = 0 then (some ((-2), vl, vg, vo, vsc)) else (bd (f_X4_isSet p1) (fun o3 => if o3 = 0 then (some ((-2), vl, vg, vo, vsc)) else (bd (f_X4_isWithin p2 (0) (2)) (fun o5 => if o5 = 0 then (some ((-2), vl, vg, vo, vsc)) else (bd (f_J6_bitCount_0f7a4 p0) (fun o7 => bd (f_J6_bitCount_0f7a4 p1) (fun o8 => if o7 = o8 then (if (p0 &&& p1) = 0 then (bd (f_X4_isWithin vsc (0) (5)) (fun o11 => if o11 = 0 then (some ((-4), vl, vg, vo, vsc)) else (chk vsc 6 (some ((vsc + 1), (upd vl (vsc).toNatClampNeg p0), (upd vg (vsc).toNatClampNeg p1), (upd vo (vsc).toNatClampNeg p2), (vsc + 1)))))) else (some ((-2), vl, vg, vo, vsc))) else (some ((-2), vl, vg, vo, vsc))))))))))
theorem inX4_seen_X3 : ∀ w ∈ wsX30, w ∈ wsX4_seen := fun w h => List.mem_cons_of_mem _ (List.mem_append_right _ h)
theorem inX4_seen_X4 : ∀ w ∈ wsX40, w ∈ wsX4_seen := fun w h => List.mem_cons_of_mem _ (List.mem_append_left _ (List.mem_append_right _ h))
theorem yd_X4_seen : yX4_seen.cls ≠ "java/lang/invoke/MethodHandle" ∧ yX4_seen.cls ≠ "java/lang/invoke/VarHandle" ∧ (parseMethodDescriptor yX4_seen.desc).map (fun d => d.parameters.length) = some 3 := by decide +kernel
abbrev rmX4_seen : Room := { frames := 2, cells := 0, slots := 0, locals := 42 }
set_option maxHeartbeats 4000000 in
set_option maxRecDepth 100000 in
theorem k_X4_seen (l : Launch) (D : va_G) (K : Nat → ClassId) (ax : Nat) (q : Nat → Nat) (zyearShop : Nat) (zimages : Nat) (zsigns : Nat) (zdays : Nat) (zmeans : Nat) (vsgc : Int32) (vw : Nat → Int32) (vk : Nat → Int32) (vr : Nat → Int32) (vp : Nat → Int32) (vb : Nat → Int32) (vi : Nat → Int32) (vwc : Int32) (vl : Nat → Int32) (vg : Nat → Int32) (vo : Nat → Int32) (vsc : Int32) (p0 : Int32) (p1 : Int32) (p2 : Int32) (out : Int32 × (Nat → Int32) × (Nat → Int32) × (Nat → Int32) × Int32) (hf : f_X4_seen vl vg vo vsc p0 p1 p2 = some out) : kI l D K .int yX4_seen wsX4_seen rmX4_seen [.ref ax, .int p0, .int p1, .int p2] ((xoW ax (q 0) zyearShop zimages zsigns zdays zmeans vsgc) ++ (shW K q vw vk vr vp vb vi vwc vl vg vo vsc)) out.1 ((xoW ax (q 0) zyearShop zimages zsigns zdays zmeans vsgc) ++ (shW K q vw vk vr vp vb vi vwc out.2.1 out.2.2.1 out.2.2.2.1 out.2.2.2.2)) := by
  refine kI.of (cc := cX4_seen) (maxL := 5) (by decide) rfl (Nat.le_of_ble_eq_true rfl) ?_
  intro p e s m args below meth c A H0 Q ls hx hb hml hown hts hK hN hA hP hD hS hl hret
  have hown : s.vm.findClass RX4 = some m.cls := hown
  have hl : lv_has ls 5 [(0, .ref ax), (1, .int p0), (2, .int p1), (3, .int p2)] := hl
  generalize hH : H0 = H at hP ⊢
  have hS : va_S A H0 H [] := by rw [← hH]; exact hS
  clear hH
  unfold f_X4_seen at hf
  refine lv_iload_n hx hb dX4_seen_0 rfl (lv_at hl 1 rfl) ?_
  obtain ⟨o1, ho1, hf⟩ := bd_el hf
  refine kc0_i (D := D) (va_runS (As := [.int p0]) (rest := []) ⟨hx, hb, hml, hown, hts⟩ ((k_X4_isSet l D K p0 o1 ho1) H.size) (va_cwS 1 hts gX4_seen_X4_isSet rfl rfl rfl yd_X4_isSet ⟨Nat.le_of_ble_eq_true rfl, Nat.le_of_ble_eq_true rfl⟩) (kPreS va_P_nil (va_D_nil (A := fun _ => True)) hK hN) rfl rfl hl.1 rfl (lv_room (Nat.le_of_ble_eq_true rfl)) dX4_seen_1 ⟨Nat.le_of_ble_eq_true rfl, Nat.le_of_ble_eq_true rfl⟩) hP hS hA (fun hzo1 H locs hP hS => ?_)
  refine lv_if_eq (tgt := 23) hx hb dX4_seen_4 (by decide) (fun c2 => ?_) (fun c2 => ?_)
  · rw [if_pos c2] at hf
    refine lv_bipush (v := (-2)) hx hb dX4_seen_23 (by decide) ?_
    obtain rfl := Option.some.inj hf
    exact hret rfl rfl rfl hP hD hS dX4_seen_25
  · rw [if_neg c2] at hf
    refine lv_iload_n hx hb dX4_seen_7 rfl (lv_at hl 2 rfl) ?_
    obtain ⟨o3, ho3, hf⟩ := bd_el hf
    refine kc0_i (D := D) (va_runS (As := [.int p1]) (rest := []) ⟨hx, hb, hml, hown, hts⟩ ((k_X4_isSet l D K p1 o3 ho3) H.size) (va_cwS 1 hts gX4_seen_X4_isSet rfl rfl rfl yd_X4_isSet ⟨Nat.le_of_ble_eq_true rfl, Nat.le_of_ble_eq_true rfl⟩) (kPreS va_P_nil (va_D_nil (A := fun _ => True)) hK hN) rfl rfl hl.1 rfl (lv_room (Nat.le_of_ble_eq_true rfl)) dX4_seen_8 ⟨Nat.le_of_ble_eq_true rfl, Nat.le_of_ble_eq_true rfl⟩) hP hS hA (fun hzo3 H locs hP hS => ?_)
    refine lv_if_eq (tgt := 23) hx hb dX4_seen_11 (by decide) (fun c4 => ?_) (fun c4 => ?_)
    · rw [if_pos c4] at hf
      refine lv_bipush (v := (-2)) hx hb dX4_seen_23 (by decide) ?_
      obtain rfl := Option.some.inj hf
      exact hret rfl rfl rfl hP hD hS dX4_seen_25
    · rw [if_neg c4] at hf
      refine lv_iload_n hx hb dX4_seen_14 rfl (lv_at hl 3 rfl) ?_
      refine lv_iconst (v := 0) hx hb dX4_seen_15 (by decide) ?_
      refine lv_iconst (v := 2) hx hb dX4_seen_16 (by decide) ?_
      obtain ⟨o5, ho5, hf⟩ := bd_el hf
      refine kc0_i (D := D) (va_runS (As := [.int p2, .int 0, .int 2]) (rest := []) ⟨hx, hb, hml, hown, hts⟩ ((k_X4_isWithin l D K p2 (0) (2) o5 ho5) H.size) (va_cwS 3 hts gX4_seen_X4_isWithin rfl rfl rfl yd_X4_isWithin ⟨Nat.le_of_ble_eq_true rfl, Nat.le_of_ble_eq_true rfl⟩) (kPreS va_P_nil (va_D_nil (A := fun _ => True)) hK hN) rfl rfl hl.1 rfl (lv_room (Nat.le_of_ble_eq_true rfl)) dX4_seen_17 ⟨Nat.le_of_ble_eq_true rfl, Nat.le_of_ble_eq_true rfl⟩) hP hS hA (fun hzo5 H locs hP hS => ?_)
      refine lv_if_ne (tgt := 26) hx hb dX4_seen_20 (by decide) (fun c6 => ?_) (fun c6 => ?_)
      · rw [if_neg c6] at hf
        refine lv_iload_n hx hb dX4_seen_26 rfl (lv_at hl 1 rfl) ?_
        obtain ⟨o7, ho7, hf⟩ := bd_el hf
        refine kc0_i (D := D) (va_runS (As := [.int p0]) (rest := []) ⟨hx, hb, hml, hown, hts⟩ ((k_J6_bitCount_0f7a4 l D K p0 o7 ho7) H.size) (va_cwS 1 hts gX4_seen_J6_bitCount_0f7a4 rfl rfl rfl yd_J6_bitCount_0f7a4 ⟨Nat.le_of_ble_eq_true rfl, Nat.le_of_ble_eq_true rfl⟩) (kPreS va_P_nil (va_D_nil (A := fun _ => True)) hK hN) rfl rfl hl.1 rfl (lv_room (Nat.le_of_ble_eq_true rfl)) dX4_seen_27 ⟨Nat.le_of_ble_eq_true rfl, Nat.le_of_ble_eq_true rfl⟩) hP hS hA (fun hzo7 H locs hP hS => ?_)
        refine lv_iload_n hx hb dX4_seen_30 rfl (lv_at hl 2 rfl) ?_
        obtain ⟨o8, ho8, hf⟩ := bd_el hf
        refine kc0_i (D := D) (va_runS (As := [.int p1]) (rest := [.int o7]) ⟨hx, hb, hml, hown, hts⟩ ((k_J6_bitCount_0f7a4 l D K p1 o8 ho8) H.size) (va_cwS 1 hts gX4_seen_J6_bitCount_0f7a4 rfl rfl rfl yd_J6_bitCount_0f7a4 ⟨Nat.le_of_ble_eq_true rfl, Nat.le_of_ble_eq_true rfl⟩) (kPreS va_P_nil (va_D_nil (A := fun _ => True)) hK hN) rfl rfl hl.1 rfl (lv_room (Nat.le_of_ble_eq_true rfl)) dX4_seen_31 ⟨Nat.le_of_ble_eq_true rfl, Nat.le_of_ble_eq_true rfl⟩) hP hS hA (fun hzo8 H locs hP hS => ?_)
        refine lv_icmp_ne (tgt := 43) hx hb dX4_seen_34 (by decide) (fun c9 => ?_) (fun c9 => ?_)
        · rw [if_neg c9] at hf
          refine lv_bipush (v := (-2)) hx hb dX4_seen_43 (by decide) ?_
          obtain rfl := Option.some.inj hf
          exact hret rfl rfl rfl hP hD hS dX4_seen_45
        · rw [if_pos c9] at hf
          refine lv_iload_n hx hb dX4_seen_37 rfl (lv_at hl 1 rfl) ?_
          refine lv_iload_n hx hb dX4_seen_38 rfl (lv_at hl 2 rfl) ?_
          refine lv_iand hx hb dX4_seen_39 ?_
          refine lv_if_eq (tgt := 46) hx hb dX4_seen_40 (by decide) (fun c10 => ?_) (fun c10 => ?_)
          · rw [if_pos c10] at hf
            refine lv_aload_n hx hb dX4_seen_46 rfl (lv_at hl 0 rfl) ?_
            refine va_get (D := D) (ci := 4) (v := .ref (q 0)) (C := RX4) (T := TX4) (N := 7) hx hb hts inX4_seen_X4 hown hK hP 0 rfl rfl 0 (by decide) (hts (.fieldLink RX4 10 "WordScales" "shop" "LWordScales$Shop;") (List.mem_of_getElem? (i := 1) rfl)) (fun _ h9 => h9) rfl dX4_seen_47 ?_
            refine va_getN (D := D) (host := "WordScales") (ci := 3) (v := .int vsc) (C := RX3) (T := TX3) (N := 11) hx hb hts inX4_seen_X3 hown hK hP 1 rfl rfl 10 (by decide) (va_Nw.use rfl (hN _ (List.mem_of_getElem? (i := 12) rfl))) (fun _ h9 => h9) rfl dX4_seen_50 ?_
            refine lv_istore (lv' := [(4, .int vsc), (0, .ref ax), (1, .int p0), (2, .int p1), (3, .int p2)]) hx hb dX4_seen_53 hl (by decide) rfl (fun ls hl => ?_)
            refine lv_iload hx hb dX4_seen_55 (lv_at hl 0 rfl) ?_
            refine lv_iconst (v := 0) hx hb dX4_seen_57 (by decide) ?_
            refine lv_iconst (v := 5) hx hb dX4_seen_58 (by decide) ?_
            obtain ⟨o11, ho11, hf⟩ := bd_el hf
            refine kc0_i (D := D) (va_runS (As := [.int vsc, .int 0, .int 5]) (rest := []) ⟨hx, hb, hml, hown, hts⟩ ((k_X4_isWithin l D K vsc (0) (5) o11 ho11) H.size) (va_cwS 3 hts gX4_seen_X4_isWithin rfl rfl rfl yd_X4_isWithin ⟨Nat.le_of_ble_eq_true rfl, Nat.le_of_ble_eq_true rfl⟩) (kPreS va_P_nil (va_D_nil (A := fun _ => True)) hK hN) rfl rfl hl.1 rfl (lv_room (Nat.le_of_ble_eq_true rfl)) dX4_seen_59 ⟨Nat.le_of_ble_eq_true rfl, Nat.le_of_ble_eq_true rfl⟩) hP hS hA (fun hzo11 H locs hP hS => ?_)
            refine lv_if_ne (tgt := 68) hx hb dX4_seen_62 (by decide) (fun c12 => ?_) (fun c12 => ?_)
            · rw [if_neg c12] at hf
              refine lv_aload_n hx hb dX4_seen_68 rfl (lv_at hl 1 rfl) ?_
              refine va_get (D := D) (ci := 4) (v := .ref (q 0)) (C := RX4) (T := TX4) (N := 7) hx hb hts inX4_seen_X4 hown hK hP 0 rfl rfl 0 (by decide) (hts (.fieldLink RX4 10 "WordScales" "shop" "LWordScales$Shop;") (List.mem_of_getElem? (i := 1) rfl)) (fun _ h9 => h9) rfl dX4_seen_69 ?_
              refine va_getN (D := D) (host := "WordScales") (ci := 3) (v := .ref (q 7)) (C := RX3) (T := TX3) (N := 11) hx hb hts inX4_seen_X3 hown hK hP 1 rfl rfl 7 (by decide) (va_Nw.use rfl (hN _ (List.mem_of_getElem? (i := 9) rfl))) (fun _ h9 => h9) rfl dX4_seen_72 ?_
              refine lv_iload hx hb dX4_seen_75 (lv_at hl 0 rfl) ?_
              refine lv_iload_n hx hb dX4_seen_77 rfl (lv_at hl 2 rfl) ?_
              obtain ⟨v13, hf⟩ := chk_el hf
              refine va_iast (D := D) (f := vl) hx hb hK hP hD hS 8 0 rfl rfl v13 dX4_seen_78 (fun H locs hP hD hS => ?_)
              have hP : va_P D vwCl ((xoW ax (q 0) zyearShop zimages zsigns zdays zmeans vsgc) ++ (shW K q vw vk vr vp vb vi vwc (upd vl (vsc).toNatClampNeg p0) vg vo vsc)) H := hP
              have hD : va_D A ((xoW ax (q 0) zyearShop zimages zsigns zdays zmeans vsgc) ++ (shW K q vw vk vr vp vb vi vwc (upd vl (vsc).toNatClampNeg p0) vg vo vsc)) := hD
              refine lv_aload_n hx hb dX4_seen_79 rfl (lv_at hl 1 rfl) ?_
              refine va_get (D := D) (ci := 4) (v := .ref (q 0)) (C := RX4) (T := TX4) (N := 7) hx hb hts inX4_seen_X4 hown hK hP 0 rfl rfl 0 (by decide) (hts (.fieldLink RX4 10 "WordScales" "shop" "LWordScales$Shop;") (List.mem_of_getElem? (i := 1) rfl)) (fun _ h9 => h9) rfl dX4_seen_80 ?_
              refine va_getN (D := D) (host := "WordScales") (ci := 3) (v := .ref (q 8)) (C := RX3) (T := TX3) (N := 11) hx hb hts inX4_seen_X3 hown hK hP 1 rfl rfl 8 (by decide) (va_Nw.use rfl (hN _ (List.mem_of_getElem? (i := 10) rfl))) (fun _ h9 => h9) rfl dX4_seen_83 ?_
              refine lv_iload hx hb dX4_seen_86 (lv_at hl 0 rfl) ?_
              refine lv_iload_n hx hb dX4_seen_88 rfl (lv_at hl 3 rfl) ?_
              refine va_iast (D := D) (f := vg) hx hb hK hP hD hS 9 0 rfl rfl v13 dX4_seen_89 (fun H locs hP hD hS => ?_)
              have hP : va_P D vwCl ((xoW ax (q 0) zyearShop zimages zsigns zdays zmeans vsgc) ++ (shW K q vw vk vr vp vb vi vwc (upd vl (vsc).toNatClampNeg p0) (upd vg (vsc).toNatClampNeg p1) vo vsc)) H := hP
              have hD : va_D A ((xoW ax (q 0) zyearShop zimages zsigns zdays zmeans vsgc) ++ (shW K q vw vk vr vp vb vi vwc (upd vl (vsc).toNatClampNeg p0) (upd vg (vsc).toNatClampNeg p1) vo vsc)) := hD
              refine lv_aload_n hx hb dX4_seen_90 rfl (lv_at hl 1 rfl) ?_
              refine va_get (D := D) (ci := 4) (v := .ref (q 0)) (C := RX4) (T := TX4) (N := 7) hx hb hts inX4_seen_X4 hown hK hP 0 rfl rfl 0 (by decide) (hts (.fieldLink RX4 10 "WordScales" "shop" "LWordScales$Shop;") (List.mem_of_getElem? (i := 1) rfl)) (fun _ h9 => h9) rfl dX4_seen_91 ?_
              refine va_getN (D := D) (host := "WordScales") (ci := 3) (v := .ref (q 9)) (C := RX3) (T := TX3) (N := 11) hx hb hts inX4_seen_X3 hown hK hP 1 rfl rfl 9 (by decide) (va_Nw.use rfl (hN _ (List.mem_of_getElem? (i := 11) rfl))) (fun _ h9 => h9) rfl dX4_seen_94 ?_
              refine lv_iload hx hb dX4_seen_97 (lv_at hl 0 rfl) ?_
              refine lv_iload_n hx hb dX4_seen_99 rfl (lv_at hl 4 rfl) ?_
              refine va_iast (D := D) (f := vo) hx hb hK hP hD hS 10 0 rfl rfl v13 dX4_seen_100 (fun H locs hP hD hS => ?_)
              have hP : va_P D vwCl ((xoW ax (q 0) zyearShop zimages zsigns zdays zmeans vsgc) ++ (shW K q vw vk vr vp vb vi vwc (upd vl (vsc).toNatClampNeg p0) (upd vg (vsc).toNatClampNeg p1) (upd vo (vsc).toNatClampNeg p2) vsc)) H := hP
              have hD : va_D A ((xoW ax (q 0) zyearShop zimages zsigns zdays zmeans vsgc) ++ (shW K q vw vk vr vp vb vi vwc (upd vl (vsc).toNatClampNeg p0) (upd vg (vsc).toNatClampNeg p1) (upd vo (vsc).toNatClampNeg p2) vsc)) := hD
              refine lv_aload_n hx hb dX4_seen_101 rfl (lv_at hl 1 rfl) ?_
              refine va_get (D := D) (ci := 4) (v := .ref (q 0)) (C := RX4) (T := TX4) (N := 7) hx hb hts inX4_seen_X4 hown hK hP 0 rfl rfl 0 (by decide) (hts (.fieldLink RX4 10 "WordScales" "shop" "LWordScales$Shop;") (List.mem_of_getElem? (i := 1) rfl)) (fun _ h9 => h9) rfl dX4_seen_102 ?_
              refine lv_iload hx hb dX4_seen_105 (lv_at hl 0 rfl) ?_
              refine lv_iconst (v := 1) hx hb dX4_seen_107 (by decide) ?_
              refine lv_iadd hx hb dX4_seen_108 ?_
              refine va_putN (D := D) (host := "WordScales") (ci := 3) (v := .int (vsc + 1)) (ty := .int) (C := RX3) (T := TX3) (N := 11) hx hb hts inX4_seen_X3 tyX3 tyX3_ok nmX3 hown hK hP hD hS 1 rfl rfl 10 (by decide) (va_Nw.use rfl (hN _ (List.mem_of_getElem? (i := 12) rfl))) (fun _ h9 => h9) rfl (tyX3_ok 10 (by decide)) rfl rfl (Nat.le_of_ble_eq_true rfl) dX4_seen_109 (fun H locs hP hD hS => ?_)
              have hP : va_P D vwCl ((xoW ax (q 0) zyearShop zimages zsigns zdays zmeans vsgc) ++ (shW K q vw vk vr vp vb vi vwc (upd vl (vsc).toNatClampNeg p0) (upd vg (vsc).toNatClampNeg p1) (upd vo (vsc).toNatClampNeg p2) (vsc + 1))) H := hP
              have hD : va_D A ((xoW ax (q 0) zyearShop zimages zsigns zdays zmeans vsgc) ++ (shW K q vw vk vr vp vb vi vwc (upd vl (vsc).toNatClampNeg p0) (upd vg (vsc).toNatClampNeg p1) (upd vo (vsc).toNatClampNeg p2) (vsc + 1))) := hD
              refine lv_iload hx hb dX4_seen_112 (lv_at hl 0 rfl) ?_
              refine lv_iconst (v := 1) hx hb dX4_seen_114 (by decide) ?_
              refine lv_iadd hx hb dX4_seen_115 ?_
              obtain rfl := Option.some.inj hf
              exact hret rfl rfl rfl hP hD hS dX4_seen_116
            · rw [if_pos c12] at hf
              refine lv_bipush (v := (-4)) hx hb dX4_seen_65 (by decide) ?_
              obtain rfl := Option.some.inj hf
              exact hret rfl rfl rfl hP hD hS dX4_seen_67
          · rw [if_neg c10] at hf
            refine lv_bipush (v := (-2)) hx hb dX4_seen_43 (by decide) ?_
            obtain rfl := Option.some.inj hf
            exact hret rfl rfl rfl hP hD hS dX4_seen_45
      · rw [if_pos c6] at hf
        refine lv_bipush (v := (-2)) hx hb dX4_seen_23 (by decide) ?_
        obtain rfl := Option.some.inj hf
        exact hret rfl rfl rfl hP hD hS dX4_seen_25
def f_X4_forget (vsc : Int32) : Int32 × Int32 := (vsc, 0)
theorem inX4_forget_X3 : ∀ w ∈ wsX30, w ∈ wsX4_forget := fun w h => List.mem_cons_of_mem _ (List.mem_append_right _ h)
theorem inX4_forget_X4 : ∀ w ∈ wsX40, w ∈ wsX4_forget := fun w h => List.mem_cons_of_mem _ (List.mem_append_left _ (List.mem_append_right _ h))
theorem yd_X4_forget : yX4_forget.cls ≠ "java/lang/invoke/MethodHandle" ∧ yX4_forget.cls ≠ "java/lang/invoke/VarHandle" ∧ (parseMethodDescriptor yX4_forget.desc).map (fun d => d.parameters.length) = some 0 := by decide +kernel
abbrev rmX4_forget : Room := { frames := 0, cells := 0, slots := 0, locals := 0 }
set_option maxHeartbeats 4000000 in
set_option maxRecDepth 100000 in
theorem k_X4_forget (l : Launch) (D : va_G) (K : Nat → ClassId) (ax : Nat) (q : Nat → Nat) (zyearShop : Nat) (zimages : Nat) (zsigns : Nat) (zdays : Nat) (zmeans : Nat) (vsgc : Int32) (vw : Nat → Int32) (vk : Nat → Int32) (vr : Nat → Int32) (vp : Nat → Int32) (vb : Nat → Int32) (vi : Nat → Int32) (vwc : Int32) (vl : Nat → Int32) (vg : Nat → Int32) (vo : Nat → Int32) (vsc : Int32) (out : Int32 × Int32) (hf : f_X4_forget vsc = out) : kI l D K .int yX4_forget wsX4_forget rmX4_forget [.ref ax] ((xoW ax (q 0) zyearShop zimages zsigns zdays zmeans vsgc) ++ (shW K q vw vk vr vp vb vi vwc vl vg vo vsc)) out.1 ((xoW ax (q 0) zyearShop zimages zsigns zdays zmeans vsgc) ++ (shW K q vw vk vr vp vb vi vwc vl vg vo out.2)) := by
  refine kI.of (cc := cX4_forget) (maxL := 2) (by decide) rfl (Nat.le_of_ble_eq_true rfl) ?_
  intro p e s m args below meth c A H0 Q ls hx hb hml hown hts hK hN hA hP hD hS hl hret
  have hown : s.vm.findClass RX4 = some m.cls := hown
  have hl : lv_has ls 2 [(0, .ref ax)] := hl
  generalize hH : H0 = H at hP ⊢
  have hS : va_S A H0 H [] := by rw [← hH]; exact hS
  clear hH
  unfold f_X4_forget at hf
  refine lv_aload_n hx hb dX4_forget_0 rfl (lv_at hl 0 rfl) ?_
  refine va_get (D := D) (ci := 4) (v := .ref (q 0)) (C := RX4) (T := TX4) (N := 7) hx hb hts inX4_forget_X4 hown hK hP 0 rfl rfl 0 (by decide) (hts (.fieldLink RX4 10 "WordScales" "shop" "LWordScales$Shop;") (List.mem_of_getElem? (i := 1) rfl)) (fun _ h9 => h9) rfl dX4_forget_1 ?_
  refine va_getN (D := D) (host := "WordScales") (ci := 3) (v := .int vsc) (C := RX3) (T := TX3) (N := 11) hx hb hts inX4_forget_X3 hown hK hP 1 rfl rfl 10 (by decide) (va_Nw.use rfl (hN _ (List.mem_of_getElem? (i := 12) rfl))) (fun _ h9 => h9) rfl dX4_forget_4 ?_
  refine lv_istore_n (lv' := [(1, .int vsc), (0, .ref ax)]) hx hb dX4_forget_7 rfl hl (by decide) rfl (fun ls hl => ?_)
  refine lv_aload_n hx hb dX4_forget_8 rfl (lv_at hl 1 rfl) ?_
  refine va_get (D := D) (ci := 4) (v := .ref (q 0)) (C := RX4) (T := TX4) (N := 7) hx hb hts inX4_forget_X4 hown hK hP 0 rfl rfl 0 (by decide) (hts (.fieldLink RX4 10 "WordScales" "shop" "LWordScales$Shop;") (List.mem_of_getElem? (i := 1) rfl)) (fun _ h9 => h9) rfl dX4_forget_9 ?_
  refine lv_iconst (v := 0) hx hb dX4_forget_12 (by decide) ?_
  refine va_putN (D := D) (host := "WordScales") (ci := 3) (v := .int 0) (ty := .int) (C := RX3) (T := TX3) (N := 11) hx hb hts inX4_forget_X3 tyX3 tyX3_ok nmX3 hown hK hP hD hS 1 rfl rfl 10 (by decide) (va_Nw.use rfl (hN _ (List.mem_of_getElem? (i := 12) rfl))) (fun _ h9 => h9) rfl (tyX3_ok 10 (by decide)) rfl rfl (Nat.le_of_ble_eq_true rfl) dX4_forget_13 (fun H locs hP hD hS => ?_)
  have hP : va_P D vwCl ((xoW ax (q 0) zyearShop zimages zsigns zdays zmeans vsgc) ++ (shW K q vw vk vr vp vb vi vwc vl vg vo 0)) H := hP
  have hD : va_D A ((xoW ax (q 0) zyearShop zimages zsigns zdays zmeans vsgc) ++ (shW K q vw vk vr vp vb vi vwc vl vg vo 0)) := hD
  refine lv_iload_n hx hb dX4_forget_16 rfl (lv_at hl 0 rfl) ?_
  subst hf
  exact hret rfl rfl rfl hP hD hS dX4_forget_17
def f_X4_hollow (vl : Nat → Int32) (vg : Nat → Int32) (vo : Nat → Int32) (vsc : Int32) : Option (Int32) := ob (f_X3_suspects vl vg vo vsc) (fun o1 => some o1)
theorem inX4_hollow_X4 : ∀ w ∈ wsX40, w ∈ wsX4_hollow := fun w h => List.mem_cons_of_mem _ (List.mem_append_left _ (List.mem_append_right _ h))
theorem yd_X4_hollow : yX4_hollow.cls ≠ "java/lang/invoke/MethodHandle" ∧ yX4_hollow.cls ≠ "java/lang/invoke/VarHandle" ∧ (parseMethodDescriptor yX4_hollow.desc).map (fun d => d.parameters.length) = some 0 := by decide +kernel
abbrev rmX4_hollow : Room := { frames := 1, cells := 0, slots := 0, locals := 22 }
set_option maxHeartbeats 4000000 in
set_option maxRecDepth 100000 in
theorem k_X4_hollow (l : Launch) (D : va_G) (K : Nat → ClassId) (ax : Nat) (q : Nat → Nat) (zyearShop : Nat) (zimages : Nat) (zsigns : Nat) (zdays : Nat) (zmeans : Nat) (vsgc : Int32) (vw : Nat → Int32) (vk : Nat → Int32) (vr : Nat → Int32) (vp : Nat → Int32) (vb : Nat → Int32) (vi : Nat → Int32) (vwc : Int32) (vl : Nat → Int32) (vg : Nat → Int32) (vo : Nat → Int32) (vsc : Int32) (out : Int32) (hf : f_X4_hollow vl vg vo vsc = some out) : kI l D K .int yX4_hollow wsX4_hollow rmX4_hollow [.ref ax] ((xoW ax (q 0) zyearShop zimages zsigns zdays zmeans vsgc) ++ (shW K q vw vk vr vp vb vi vwc vl vg vo vsc)) out ((xoW ax (q 0) zyearShop zimages zsigns zdays zmeans vsgc) ++ (shW K q vw vk vr vp vb vi vwc vl vg vo vsc)) := by
  refine kI.of (cc := cX4_hollow) (maxL := 1) (by decide) rfl (Nat.le_of_ble_eq_true rfl) ?_
  intro p e s m args below meth c A H0 Q ls hx hb hml hown hts hK hN hA hP hD hS hl hret
  have hown : s.vm.findClass RX4 = some m.cls := hown
  have hl : lv_has ls 1 [(0, .ref ax)] := hl
  generalize hH : H0 = H at hP ⊢
  have hS : va_S A H0 H [] := by rw [← hH]; exact hS
  clear hH
  unfold f_X4_hollow at hf
  refine lv_aload_n hx hb dX4_hollow_0 rfl (lv_at hl 0 rfl) ?_
  refine va_get (D := D) (ci := 4) (v := .ref (q 0)) (C := RX4) (T := TX4) (N := 7) hx hb hts inX4_hollow_X4 hown hK hP 0 rfl rfl 0 (by decide) (hts (.fieldLink RX4 10 "WordScales" "shop" "LWordScales$Shop;") (List.mem_of_getElem? (i := 1) rfl)) (fun _ h9 => h9) rfl dX4_hollow_1 ?_
  obtain ⟨o1, ho1, hf⟩ := ob_el hf
  have hPc : va_P D vwCl (shW K q vw vk vr vp vb vi vwc vl vg vo vsc) H := hP.sub [1, 2, 3, 4, 5, 6, 7, 8, 9, 10] rfl
  have hDc : va_D A (shW K q vw vk vr vp vb vi vwc vl vg vo vsc) := hD.sub [1, 2, 3, 4, 5, 6, 7, 8, 9, 10] (by decide) rfl
  refine kcg_i (D := D) (wc := (shW K q vw vk vr vp vb vi vwc vl vg vo vsc)) (wc' := (shW K q vw vk vr vp vb vi vwc vl vg vo vsc)) (wr := [0].filterMap (fun i => (((xoW ax (q 0) zyearShop zimages zsigns zdays zmeans vsgc) ++ (shW K q vw vk vr vp vb vi vwc vl vg vo vsc)) : va_W)[i]?)) (ws2 := ((xoW ax (q 0) zyearShop zimages zsigns zdays zmeans vsgc) ++ (shW K q vw vk vr vp vb vi vwc vl vg vo vsc))) (va_runVN (As := []) (rest := []) ⟨hx, hb, hml, hown, hts⟩ ((k_X3_suspects l D K q vw vk vr vp vb vi vwc vl vg vo vsc o1 ho1) H.size) ⟨va_cnB 0 hts gX4_hollow_X3_suspects_n170 rfl rfl rfl (hN _ (List.mem_of_getElem? (i := 58) rfl)) (hts (.initialized RX3) (List.mem_of_getElem? (i := 3) rfl)) yd_X3_suspects ⟨Nat.le_of_ble_eq_true rfl, Nat.le_of_ble_eq_true rfl⟩, (hts (.instanceMethod yX3_suspects) (List.mem_of_getElem? (i := 2) rfl)), (hts (.selects RX3 yX3_suspects yX3_suspects) (List.mem_of_getElem? (i := 4) rfl))⟩ (kPreV (ci := 3) (q0 := 1) hP rfl rfl hPc hDc hK hN) rfl rfl hl.1 rfl (lv_room (Nat.le_of_ble_eq_true rfl)) dX4_hollow_4 ⟨Nat.le_of_ble_eq_true rfl, Nat.le_of_ble_eq_true rfl⟩) hP hD hS hA [1, 2, 3, 4, 5, 6, 7, 8, 9, 10] [0] [0, 1, 2, 3, 4, 5, 6, 7, 8, 9, 10] rfl rfl (by decide) (by decide) rfl (by decide) (fun hzo1 H locs hP hD hS => ?_)
  obtain rfl := Option.some.inj hf
  exact hret rfl rfl rfl hP hD hS dX4_hollow_7
def f_X4_lay (vl : Nat → Int32) (vg : Nat → Int32) (vo : Nat → Int32) (vsc : Int32) (p0 : Int32) : Option (Int32) := bd (f_X4_isWithin p0 (0) (2)) (fun o1 => if o1 = 0 then (some (-2)) else (ob (f_X3_suspects vl vg vo vsc) (fun o3 => bd (f_J6_bitCount_0f7a4 o3) (fun o4 => if p0 = 2 then (ob (f_X4_fewestWeighings o4) (fun o10 => some o10)) else (if o4 = 0 then (some (-6)) else (ob (f_X4_bestEach o4) (fun o7 => if p0 = 0 then (some o7) else (bd (f_X4_mostLeft o4 o7) (fun o9 => some o9)))))))))
theorem inX4_lay_X4 : ∀ w ∈ wsX40, w ∈ wsX4_lay := fun w h => List.mem_cons_of_mem _ (List.mem_append_left _ (List.mem_append_right _ h))
theorem yd_X4_lay : yX4_lay.cls ≠ "java/lang/invoke/MethodHandle" ∧ yX4_lay.cls ≠ "java/lang/invoke/VarHandle" ∧ (parseMethodDescriptor yX4_lay.desc).map (fun d => d.parameters.length) = some 1 := by decide +kernel
abbrev rmX4_lay : Room := { frames := 3, cells := 0, slots := 0, locals := 68 }
set_option maxHeartbeats 4000000 in
set_option maxRecDepth 100000 in
theorem k_X4_lay (l : Launch) (D : va_G) (K : Nat → ClassId) (ax : Nat) (q : Nat → Nat) (zyearShop : Nat) (zimages : Nat) (zsigns : Nat) (zdays : Nat) (zmeans : Nat) (vsgc : Int32) (vw : Nat → Int32) (vk : Nat → Int32) (vr : Nat → Int32) (vp : Nat → Int32) (vb : Nat → Int32) (vi : Nat → Int32) (vwc : Int32) (vl : Nat → Int32) (vg : Nat → Int32) (vo : Nat → Int32) (vsc : Int32) (p0 : Int32) (out : Int32) (hf : f_X4_lay vl vg vo vsc p0 = some out) : kI l D K .int yX4_lay wsX4_lay rmX4_lay [.ref ax, .int p0] ((xoW ax (q 0) zyearShop zimages zsigns zdays zmeans vsgc) ++ (shW K q vw vk vr vp vb vi vwc vl vg vo vsc)) out ((xoW ax (q 0) zyearShop zimages zsigns zdays zmeans vsgc) ++ (shW K q vw vk vr vp vb vi vwc vl vg vo vsc)) := by
  refine kI.of (cc := cX4_lay) (maxL := 4) (by decide) rfl (Nat.le_of_ble_eq_true rfl) ?_
  intro p e s m args below meth c A H0 Q ls hx hb hml hown hts hK hN hA hP hD hS hl hret
  have hown : s.vm.findClass RX4 = some m.cls := hown
  have hl : lv_has ls 4 [(0, .ref ax), (1, .int p0)] := hl
  generalize hH : H0 = H at hP ⊢
  have hS : va_S A H0 H [] := by rw [← hH]; exact hS
  clear hH
  unfold f_X4_lay at hf
  refine lv_iload_n hx hb dX4_lay_0 rfl (lv_at hl 1 rfl) ?_
  refine lv_iconst (v := 0) hx hb dX4_lay_1 (by decide) ?_
  refine lv_iconst (v := 2) hx hb dX4_lay_2 (by decide) ?_
  obtain ⟨o1, ho1, hf⟩ := bd_el hf
  refine kc0_i (D := D) (va_runS (As := [.int p0, .int 0, .int 2]) (rest := []) ⟨hx, hb, hml, hown, hts⟩ ((k_X4_isWithin l D K p0 (0) (2) o1 ho1) H.size) (va_cwS 3 hts gX4_lay_X4_isWithin rfl rfl rfl yd_X4_isWithin ⟨Nat.le_of_ble_eq_true rfl, Nat.le_of_ble_eq_true rfl⟩) (kPreS va_P_nil (va_D_nil (A := fun _ => True)) hK hN) rfl rfl hl.1 rfl (lv_room (Nat.le_of_ble_eq_true rfl)) dX4_lay_3 ⟨Nat.le_of_ble_eq_true rfl, Nat.le_of_ble_eq_true rfl⟩) hP hS hA (fun hzo1 H locs hP hS => ?_)
  refine lv_if_ne (tgt := 12) hx hb dX4_lay_6 (by decide) (fun c2 => ?_) (fun c2 => ?_)
  · rw [if_neg c2] at hf
    refine lv_aload_n hx hb dX4_lay_12 rfl (lv_at hl 0 rfl) ?_
    refine va_get (D := D) (ci := 4) (v := .ref (q 0)) (C := RX4) (T := TX4) (N := 7) hx hb hts inX4_lay_X4 hown hK hP 0 rfl rfl 0 (by decide) (hts (.fieldLink RX4 10 "WordScales" "shop" "LWordScales$Shop;") (List.mem_of_getElem? (i := 1) rfl)) (fun _ h9 => h9) rfl dX4_lay_13 ?_
    obtain ⟨o3, ho3, hf⟩ := ob_el hf
    have hPc : va_P D vwCl (shW K q vw vk vr vp vb vi vwc vl vg vo vsc) H := hP.sub [1, 2, 3, 4, 5, 6, 7, 8, 9, 10] rfl
    have hDc : va_D A (shW K q vw vk vr vp vb vi vwc vl vg vo vsc) := hD.sub [1, 2, 3, 4, 5, 6, 7, 8, 9, 10] (by decide) rfl
    refine kcg_i (D := D) (wc := (shW K q vw vk vr vp vb vi vwc vl vg vo vsc)) (wc' := (shW K q vw vk vr vp vb vi vwc vl vg vo vsc)) (wr := [0].filterMap (fun i => (((xoW ax (q 0) zyearShop zimages zsigns zdays zmeans vsgc) ++ (shW K q vw vk vr vp vb vi vwc vl vg vo vsc)) : va_W)[i]?)) (ws2 := ((xoW ax (q 0) zyearShop zimages zsigns zdays zmeans vsgc) ++ (shW K q vw vk vr vp vb vi vwc vl vg vo vsc))) (va_runVN (As := []) (rest := []) ⟨hx, hb, hml, hown, hts⟩ ((k_X3_suspects l D K q vw vk vr vp vb vi vwc vl vg vo vsc o3 ho3) H.size) ⟨va_cnB 0 hts gX4_lay_X3_suspects_n170 rfl rfl rfl (hN _ (List.mem_of_getElem? (i := 58) rfl)) (hts (.initialized RX3) (List.mem_of_getElem? (i := 7) rfl)) yd_X3_suspects ⟨Nat.le_of_ble_eq_true rfl, Nat.le_of_ble_eq_true rfl⟩, (hts (.instanceMethod yX3_suspects) (List.mem_of_getElem? (i := 6) rfl)), (hts (.selects RX3 yX3_suspects yX3_suspects) (List.mem_of_getElem? (i := 8) rfl))⟩ (kPreV (ci := 3) (q0 := 1) hP rfl rfl hPc hDc hK hN) rfl rfl hl.1 rfl (lv_room (Nat.le_of_ble_eq_true rfl)) dX4_lay_16 ⟨Nat.le_of_ble_eq_true rfl, Nat.le_of_ble_eq_true rfl⟩) hP hD hS hA [1, 2, 3, 4, 5, 6, 7, 8, 9, 10] [0] [0, 1, 2, 3, 4, 5, 6, 7, 8, 9, 10] rfl rfl (by decide) (by decide) rfl (by decide) (fun hzo3 H locs hP hD hS => ?_)
    obtain ⟨o4, ho4, hf⟩ := bd_el hf
    refine kc0_i (D := D) (va_runS (As := [.int o3]) (rest := []) ⟨hx, hb, hml, hown, hts⟩ ((k_J6_bitCount_0f7a4 l D K o3 o4 ho4) H.size) (va_cwS 1 hts gX4_lay_J6_bitCount_0f7a4 rfl rfl rfl yd_J6_bitCount_0f7a4 ⟨Nat.le_of_ble_eq_true rfl, Nat.le_of_ble_eq_true rfl⟩) (kPreS va_P_nil (va_D_nil (A := fun _ => True)) hK hN) rfl rfl hl.1 rfl (lv_room (Nat.le_of_ble_eq_true rfl)) dX4_lay_19 ⟨Nat.le_of_ble_eq_true rfl, Nat.le_of_ble_eq_true rfl⟩) hP hS hA (fun hzo4 H locs hP hS => ?_)
    refine lv_istore_n (lv' := [(2, .int o4), (0, .ref ax), (1, .int p0)]) hx hb dX4_lay_22 rfl hl (by decide) rfl (fun ls hl => ?_)
    refine lv_iload_n hx hb dX4_lay_23 rfl (lv_at hl 2 rfl) ?_
    refine lv_iconst (v := 2) hx hb dX4_lay_24 (by decide) ?_
    refine lv_icmp_ne (tgt := 33) hx hb dX4_lay_25 (by decide) (fun c5 => ?_) (fun c5 => ?_)
    · rw [if_neg c5] at hf
      refine lv_iload_n hx hb dX4_lay_33 rfl (lv_at hl 0 rfl) ?_
      refine lv_if_ne (tgt := 40) hx hb dX4_lay_34 (by decide) (fun c6 => ?_) (fun c6 => ?_)
      · rw [if_neg c6] at hf
        refine lv_iload_n hx hb dX4_lay_40 rfl (lv_at hl 0 rfl) ?_
        obtain ⟨o7, ho7, hf⟩ := ob_el hf
        refine kc0_i (D := D) (va_runS (As := [.int o4]) (rest := []) ⟨hx, hb, hml, hown, hts⟩ ((k_X4_bestEach l D K o4 o7 ho7) H.size) (va_cwS 1 hts gX4_lay_X4_bestEach rfl rfl rfl yd_X4_bestEach ⟨Nat.le_of_ble_eq_true rfl, Nat.le_of_ble_eq_true rfl⟩) (kPreS va_P_nil (va_D_nil (A := fun _ => True)) hK hN) rfl rfl hl.1 rfl (lv_room (Nat.le_of_ble_eq_true rfl)) dX4_lay_41 ⟨Nat.le_of_ble_eq_true rfl, Nat.le_of_ble_eq_true rfl⟩) hP hS hA (fun hzo7 H locs hP hS => ?_)
        refine lv_istore_n (lv' := [(3, .int o7), (2, .int o4), (0, .ref ax), (1, .int p0)]) hx hb dX4_lay_44 rfl hl (by decide) rfl (fun ls hl => ?_)
        refine lv_iload_n hx hb dX4_lay_45 rfl (lv_at hl 3 rfl) ?_
        refine lv_if_ne (tgt := 53) hx hb dX4_lay_46 (by decide) (fun c8 => ?_) (fun c8 => ?_)
        · rw [if_neg c8] at hf
          refine lv_iload_n hx hb dX4_lay_53 rfl (lv_at hl 1 rfl) ?_
          refine lv_iload_n hx hb dX4_lay_54 rfl (lv_at hl 0 rfl) ?_
          obtain ⟨o9, ho9, hf⟩ := bd_el hf
          refine kc0_i (D := D) (va_runS (As := [.int o4, .int o7]) (rest := []) ⟨hx, hb, hml, hown, hts⟩ ((k_X4_mostLeft l D K o4 o7 o9 ho9) H.size) (va_cwS 2 hts gX4_lay_X4_mostLeft rfl rfl rfl yd_X4_mostLeft ⟨Nat.le_of_ble_eq_true rfl, Nat.le_of_ble_eq_true rfl⟩) (kPreS va_P_nil (va_D_nil (A := fun _ => True)) hK hN) rfl rfl hl.1 rfl (lv_room (Nat.le_of_ble_eq_true rfl)) dX4_lay_55 ⟨Nat.le_of_ble_eq_true rfl, Nat.le_of_ble_eq_true rfl⟩) hP hS hA (fun hzo9 H locs hP hS => ?_)
          obtain rfl := Option.some.inj hf
          exact hret rfl rfl rfl hP hD hS dX4_lay_58
        · rw [if_pos c8] at hf
          refine lv_iload_n hx hb dX4_lay_49 rfl (lv_at hl 0 rfl) ?_
          refine lv_goto (tgt := 58) hx hb dX4_lay_50 (by decide) ?_
          obtain rfl := Option.some.inj hf
          exact hret rfl rfl rfl hP hD hS dX4_lay_58
      · rw [if_pos c6] at hf
        refine lv_bipush (v := (-6)) hx hb dX4_lay_37 (by decide) ?_
        obtain rfl := Option.some.inj hf
        exact hret rfl rfl rfl hP hD hS dX4_lay_39
    · rw [if_pos c5] at hf
      refine lv_iload_n hx hb dX4_lay_28 rfl (lv_at hl 0 rfl) ?_
      obtain ⟨o10, ho10, hf⟩ := ob_el hf
      refine kc0_i (D := D) (va_runS (As := [.int o4]) (rest := []) ⟨hx, hb, hml, hown, hts⟩ ((k_X4_fewestWeighings l D K o4 o10 ho10) H.size) (va_cwS 1 hts gX4_lay_X4_fewestWeighings rfl rfl rfl yd_X4_fewestWeighings ⟨Nat.le_of_ble_eq_true rfl, Nat.le_of_ble_eq_true rfl⟩) (kPreS va_P_nil (va_D_nil (A := fun _ => True)) hK hN) rfl rfl hl.1 rfl (lv_room (Nat.le_of_ble_eq_true rfl)) dX4_lay_29 ⟨Nat.le_of_ble_eq_true rfl, Nat.le_of_ble_eq_true rfl⟩) hP hS hA (fun hzo10 H locs hP hS => ?_)
      obtain rfl := Option.some.inj hf
      exact hret rfl rfl rfl hP hD hS dX4_lay_32
  · rw [if_pos c2] at hf
    refine lv_bipush (v := (-2)) hx hb dX4_lay_9 (by decide) ?_
    obtain rfl := Option.some.inj hf
    exact hret rfl rfl rfl hP hD hS dX4_lay_11
