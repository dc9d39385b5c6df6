def f_X4_word (vw : Nat → Int32) (vk : Nat → Int32) (p0 : Int32) (p1 : Int32) (p2 : Int32) : Option (Int32 × (Nat → Int32) × (Nat → Int32)) := bd (f_X4_isWord p0) (fun o1 => if o1 = 0 then (some ((-1), vw, vk)) else (bd (f_X4_isWithin p1 (0) (99)) (fun o3 => if o3 = 0 then (some ((-2), vw, vk)) else (bd (f_X4_isWithin p2 (0) (2)) (fun o5 => if o5 = 0 then (some ((-2), vw, vk)) else (chk p0 12 (some ((vw (p0).toNatClampNeg), (upd vw (p0).toNatClampNeg p1), (upd vk (p0).toNatClampNeg p2)))))))))
theorem inX4_word_X3 : ∀ w ∈ wsX30, w ∈ wsX4_word := fun w h => List.mem_cons_of_mem _ (List.mem_append_right _ h)
theorem inX4_word_X4 : ∀ w ∈ wsX40, w ∈ wsX4_word := fun w h => List.mem_cons_of_mem _ (List.mem_append_left _ (List.mem_append_right _ h))
theorem yd_X4_word : yX4_word.cls ≠ "java/lang/invoke/MethodHandle" ∧ yX4_word.cls ≠ "java/lang/invoke/VarHandle" ∧ (parseMethodDescriptor yX4_word.desc).map (fun d => d.parameters.length) = some 3 := by decide +kernel
abbrev rmX4_word : Room := { frames := 2, cells := 0, slots := 0, locals := 42 }
set_option maxHeartbeats 4000000 in
set_option maxRecDepth 100000 in
theorem k_X4_word (l : Launch) (D : va_G) (K : Nat → ClassId) (ax : Nat) (q : Nat → Nat) (zyearShop : Nat) (zimages : Nat) (zsigns : Nat) (zdays : Nat) (zmeans : Nat) (vsgc : Int32) (vw : Nat → Int32) (vk : Nat → Int32) (vr : Nat → Int32) (vp : Nat → Int32) (vb : Nat → Int32) (vi : Nat → Int32) (vwc : Int32) (vl : Nat → Int32) (vg : Nat → Int32) (vo : Nat → Int32) (vsc : Int32) (p0 : Int32) (p1 : Int32) (p2 : Int32) (out : Int32 × (Nat → Int32) × (Nat → Int32)) (hf : f_X4_word vw vk p0 p1 p2 = some out) : kI l D K .int yX4_word wsX4_word rmX4_word [.ref ax, .int p0, .int p1, .int p2] ((xoW ax (q 0) zyearShop zimages zsigns zdays zmeans vsgc) ++ (shW K q vw vk vr vp vb vi vwc vl vg vo vsc)) out.1 ((xoW ax (q 0) zyearShop zimages zsigns zdays zmeans vsgc) ++ (shW K q out.2.1 out.2.2 vr vp vb vi vwc vl vg vo vsc)) := by
  refine kI.of (cc := cX4_word) (maxL := 5) (by decide) rfl (Nat.le_of_ble_eq_true rfl) ?_
  intro p e s m args below meth c A H0 Q ls hx hb hml hown hts hK hN hA hP hD hS hl hret
  have hown : s.vm.findClass RX4 = some m.cls := hown
  have hl : lv_has ls 5 [(0, .ref ax), (1, .int p0), (2, .int p1), (3, .int p2)] := hl
  generalize hH : H0 = H at hP ⊢
  have hS : va_S A H0 H [] := by rw [← hH]; exact hS
  clear hH
  unfold f_X4_word at hf
  refine lv_iload_n hx hb dX4_word_0 rfl (lv_at hl 1 rfl) ?_
  obtain ⟨o1, ho1, hf⟩ := bd_el hf
  refine kc0_i (D := D) (va_runS (As := [.int p0]) (rest := []) ⟨hx, hb, hml, hown, hts⟩ ((k_X4_isWord l D K p0 o1 ho1) H.size) (va_cwS 1 hts gX4_word_X4_isWord rfl rfl rfl yd_X4_isWord ⟨Nat.le_of_ble_eq_true rfl, Nat.le_of_ble_eq_true rfl⟩) (kPreS va_P_nil (va_D_nil (A := fun _ => True)) hK hN) rfl rfl hl.1 rfl (lv_room (Nat.le_of_ble_eq_true rfl)) dX4_word_1 ⟨Nat.le_of_ble_eq_true rfl, Nat.le_of_ble_eq_true rfl⟩) hP hS hA (fun hzo1 H locs hP hS => ?_)
  refine lv_if_ne (tgt := 9) hx hb dX4_word_4 (by decide) (fun c2 => ?_) (fun c2 => ?_)
  · rw [if_neg c2] at hf
    refine lv_iload_n hx hb dX4_word_9 rfl (lv_at hl 2 rfl) ?_
    refine lv_iconst (v := 0) hx hb dX4_word_10 (by decide) ?_
    refine lv_bipush (v := 99) hx hb dX4_word_11 (by decide) ?_
    obtain ⟨o3, ho3, hf⟩ := bd_el hf
    refine kc0_i (D := D) (va_runS (As := [.int p1, .int 0, .int 99]) (rest := []) ⟨hx, hb, hml, hown, hts⟩ ((k_X4_isWithin l D K p1 (0) (99) o3 ho3) H.size) (va_cwS 3 hts gX4_word_X4_isWithin rfl rfl rfl yd_X4_isWithin ⟨Nat.le_of_ble_eq_true rfl, Nat.le_of_ble_eq_true rfl⟩) (kPreS va_P_nil (va_D_nil (A := fun _ => True)) hK hN) rfl rfl hl.1 rfl (lv_room (Nat.le_of_ble_eq_true rfl)) dX4_word_13 ⟨Nat.le_of_ble_eq_true rfl, Nat.le_of_ble_eq_true rfl⟩) hP hS hA (fun hzo3 H locs hP hS => ?_)
    refine lv_if_eq (tgt := 28) hx hb dX4_word_16 (by decide) (fun c4 => ?_) (fun c4 => ?_)
    · rw [if_pos c4] at hf
      refine lv_bipush (v := (-2)) hx hb dX4_word_28 (by decide) ?_
      obtain rfl := Option.some.inj hf
      exact hret rfl rfl rfl hP hD hS dX4_word_30
    · rw [if_neg c4] at hf
      refine lv_iload_n hx hb dX4_word_19 rfl (lv_at hl 3 rfl) ?_
      refine lv_iconst (v := 0) hx hb dX4_word_20 (by decide) ?_
      refine lv_iconst (v := 2) hx hb dX4_word_21 (by decide) ?_
      obtain ⟨o5, ho5, hf⟩ := bd_el hf
      refine kc0_i (D := D) (va_runS (As := [.int p2, .int 0, .int 2]) (rest := []) ⟨hx, hb, hml, hown, hts⟩ ((k_X4_isWithin l D K p2 (0) (2) o5 ho5) H.size) (va_cwS 3 hts gX4_word_X4_isWithin rfl rfl rfl yd_X4_isWithin ⟨Nat.le_of_ble_eq_true rfl, Nat.le_of_ble_eq_true rfl⟩) (kPreS va_P_nil (va_D_nil (A := fun _ => True)) hK hN) rfl rfl hl.1 rfl (lv_room (Nat.le_of_ble_eq_true rfl)) dX4_word_22 ⟨Nat.le_of_ble_eq_true rfl, Nat.le_of_ble_eq_true rfl⟩) hP hS hA (fun hzo5 H locs hP hS => ?_)
      refine lv_if_ne (tgt := 31) hx hb dX4_word_25 (by decide) (fun c6 => ?_) (fun c6 => ?_)
      · rw [if_neg c6] at hf
        refine lv_aload_n hx hb dX4_word_31 rfl (lv_at hl 0 rfl) ?_
        refine va_get (D := D) (ci := 4) (v := .ref (q 0)) (C := RX4) (T := TX4) (N := 7) hx hb hts inX4_word_X4 hown hK hP 0 rfl rfl 0 (by decide) (hts (.fieldLink RX4 10 "WordScales" "shop" "LWordScales$Shop;") (List.mem_of_getElem? (i := 1) rfl)) (fun _ h9 => h9) rfl dX4_word_32 ?_
        refine va_getN (D := D) (host := "WordScales") (ci := 3) (v := .ref (q 1)) (C := RX3) (T := TX3) (N := 11) hx hb hts inX4_word_X3 hown hK hP 1 rfl rfl 0 (by decide) (va_Nw.use rfl (hN _ (List.mem_of_getElem? (i := 0) rfl))) (fun _ h9 => h9) rfl dX4_word_35 ?_
        refine lv_iload_n hx hb dX4_word_38 rfl (lv_at hl 1 rfl) ?_
        obtain ⟨v7, hf⟩ := chk_el hf
        refine va_iald (D := D) (f := vw) hx hb hK hP 2 0 rfl rfl v7 dX4_word_39 ?_
        refine lv_istore (lv' := [(4, .int (vw (p0).toNatClampNeg)), (0, .ref ax), (1, .int p0), (2, .int p1), (3, .int p2)]) hx hb dX4_word_40 hl (by decide) rfl (fun ls hl => ?_)
        refine lv_aload_n hx hb dX4_word_42 rfl (lv_at hl 1 rfl) ?_
        refine va_get (D := D) (ci := 4) (v := .ref (q 0)) (C := RX4) (T := TX4) (N := 7) hx hb hts inX4_word_X4 hown hK hP 0 rfl rfl 0 (by decide) (hts (.fieldLink RX4 10 "WordScales" "shop" "LWordScales$Shop;") (List.mem_of_getElem? (i := 1) rfl)) (fun _ h9 => h9) rfl dX4_word_43 ?_
        refine va_getN (D := D) (host := "WordScales") (ci := 3) (v := .ref (q 1)) (C := RX3) (T := TX3) (N := 11) hx hb hts inX4_word_X3 hown hK hP 1 rfl rfl 0 (by decide) (va_Nw.use rfl (hN _ (List.mem_of_getElem? (i := 0) rfl))) (fun _ h9 => h9) rfl dX4_word_46 ?_
        refine lv_iload_n hx hb dX4_word_49 rfl (lv_at hl 2 rfl) ?_
        refine lv_iload_n hx hb dX4_word_50 rfl (lv_at hl 3 rfl) ?_
        refine va_iast (D := D) (f := vw) hx hb hK hP hD hS 2 0 rfl rfl v7 dX4_word_51 (fun H locs hP hD hS => ?_)
        have hP : va_P D vwCl ((xoW ax (q 0) zyearShop zimages zsigns zdays zmeans vsgc) ++ (shW K q (upd vw (p0).toNatClampNeg p1) vk vr vp vb vi vwc vl vg vo vsc)) H := hP
        have hD : va_D A ((xoW ax (q 0) zyearShop zimages zsigns zdays zmeans vsgc) ++ (shW K q (upd vw (p0).toNatClampNeg p1) vk vr vp vb vi vwc vl vg vo vsc)) := hD
        refine lv_aload_n hx hb dX4_word_52 rfl (lv_at hl 1 rfl) ?_
        refine va_get (D := D) (ci := 4) (v := .ref (q 0)) (C := RX4) (T := TX4) (N := 7) hx hb hts inX4_word_X4 hown hK hP 0 rfl rfl 0 (by decide) (hts (.fieldLink RX4 10 "WordScales" "shop" "LWordScales$Shop;") (List.mem_of_getElem? (i := 1) rfl)) (fun _ h9 => h9) rfl dX4_word_53 ?_
        refine va_getN (D := D) (host := "WordScales") (ci := 3) (v := .ref (q 2)) (C := RX3) (T := TX3) (N := 11) hx hb hts inX4_word_X3 hown hK hP 1 rfl rfl 1 (by decide) (va_Nw.use rfl (hN _ (List.mem_of_getElem? (i := 2) rfl))) (fun _ h9 => h9) rfl dX4_word_56 ?_
        refine lv_iload_n hx hb dX4_word_59 rfl (lv_at hl 2 rfl) ?_
        refine lv_iload_n hx hb dX4_word_60 rfl (lv_at hl 4 rfl) ?_
        refine va_iast (D := D) (f := vk) hx hb hK hP hD hS 3 0 rfl rfl v7 dX4_word_61 (fun H locs hP hD hS => ?_)
        have hP : va_P D vwCl ((xoW ax (q 0) zyearShop zimages zsigns zdays zmeans vsgc) ++ (shW K q (upd vw (p0).toNatClampNeg p1) (upd vk (p0).toNatClampNeg p2) vr vp vb vi vwc vl vg vo vsc)) H := hP
        have hD : va_D A ((xoW ax (q 0) zyearShop zimages zsigns zdays zmeans vsgc) ++ (shW K q (upd vw (p0).toNatClampNeg p1) (upd vk (p0).toNatClampNeg p2) vr vp vb vi vwc vl vg vo vsc)) := hD
        refine lv_iload hx hb dX4_word_62 (lv_at hl 0 rfl) ?_
        obtain rfl := Option.some.inj hf
        exact hret rfl rfl rfl hP hD hS dX4_word_64
      · rw [if_pos c6] at hf
        refine lv_bipush (v := (-2)) hx hb dX4_word_28 (by decide) ?_
        obtain rfl := Option.some.inj hf
        exact hret rfl rfl rfl hP hD hS dX4_word_30
  · rw [if_pos c2] at hf
    refine lv_iconst (v := (-1)) hx hb dX4_word_7 (by decide) ?_
    obtain rfl := Option.some.inj hf
    exact hret rfl rfl rfl hP hD hS dX4_word_8
def f_X4_rhyme (vr : Nat → Int32) (p0 : Int32) (p1 : Int32) : Option (Int32 × (Nat → Int32)) := bd (f_X4_isWord p0) (fun o1 => if o1 = 0 then (some ((-1), vr)) else (bd (f_X4_isWord p1) (fun o3 => if o3 = 0 then (some ((-1), vr)) else (if p0 = p1 then (some ((-1), vr)) else (ob (f_X3_joinRhymes vr p0 p1) (fun o6 => chk p0 12 (bd (f_J6_bitCount_0f7a4 (o6 (p0).toNatClampNeg)) (fun o8 => some ((o8 - 1), o6)))))))))
theorem inX4_rhyme_X3 : ∀ w ∈ wsX30, w ∈ wsX4_rhyme := fun w h => List.mem_cons_of_mem _ (List.mem_append_right _ h)
theorem inX4_rhyme_X4 : ∀ w ∈ wsX40, w ∈ wsX4_rhyme := fun w h => List.mem_cons_of_mem _ (List.mem_append_left _ (List.mem_append_right _ h))
theorem yd_X4_rhyme : yX4_rhyme.cls ≠ "java/lang/invoke/MethodHandle" ∧ yX4_rhyme.cls ≠ "java/lang/invoke/VarHandle" ∧ (parseMethodDescriptor yX4_rhyme.desc).map (fun d => d.parameters.length) = some 2 := by decide +kernel
abbrev rmX4_rhyme : Room := { frames := 3, cells := 0, slots := 0, locals := 66 }
set_option maxHeartbeats 4000000 in
set_option maxRecDepth 100000 in
theorem k_X4_rhyme (l : Launch) (D : va_G) (K : Nat → ClassId) (ax : Nat) (q : Nat → Nat) (zyearShop : Nat) (zimages : Nat) (zsigns : Nat) (zdays : Nat) (zmeans : Nat) (vsgc : Int32) (vw : Nat → Int32) (vk : Nat → Int32) (vr : Nat → Int32) (vp : Nat → Int32) (vb : Nat → Int32) (vi : Nat → Int32) (vwc : Int32) (vl : Nat → Int32) (vg : Nat → Int32) (vo : Nat → Int32) (vsc : Int32) (p0 : Int32) (p1 : Int32) (out : Int32 × (Nat → Int32)) (hf : f_X4_rhyme vr p0 p1 = some out) : kI l D K .int yX4_rhyme wsX4_rhyme rmX4_rhyme [.ref ax, .int p0, .int p1] ((xoW ax (q 0) zyearShop zimages zsigns zdays zmeans vsgc) ++ (shW K q vw vk vr vp vb vi vwc vl vg vo vsc)) out.1 ((xoW ax (q 0) zyearShop zimages zsigns zdays zmeans vsgc) ++ (shW K q vw vk out.2 vp vb vi vwc vl vg vo vsc)) := by
  refine kI.of (cc := cX4_rhyme) (maxL := 3) (by decide) rfl (Nat.le_of_ble_eq_true rfl) ?_
  intro p e s m args below meth c A H0 Q ls hx hb hml hown hts hK hN hA hP hD hS hl hret
  have hown : s.vm.findClass RX4 = some m.cls := hown
  have hl : lv_has ls 3 [(0, .ref ax), (1, .int p0), (2, .int p1)] := hl
  generalize hH : H0 = H at hP ⊢
  have hS : va_S A H0 H [] := by rw [← hH]; exact hS
  clear hH
  unfold f_X4_rhyme at hf
  refine lv_iload_n hx hb dX4_rhyme_0 rfl (lv_at hl 1 rfl) ?_
  obtain ⟨o1, ho1, hf⟩ := bd_el hf
  refine kc0_i (D := D) (va_runS (As := [.int p0]) (rest := []) ⟨hx, hb, hml, hown, hts⟩ ((k_X4_isWord l D K p0 o1 ho1) H.size) (va_cwS 1 hts gX4_rhyme_X4_isWord rfl rfl rfl yd_X4_isWord ⟨Nat.le_of_ble_eq_true rfl, Nat.le_of_ble_eq_true rfl⟩) (kPreS va_P_nil (va_D_nil (A := fun _ => True)) hK hN) rfl rfl hl.1 rfl (lv_room (Nat.le_of_ble_eq_true rfl)) dX4_rhyme_1 ⟨Nat.le_of_ble_eq_true rfl, Nat.le_of_ble_eq_true rfl⟩) hP hS hA (fun hzo1 H locs hP hS => ?_)
  refine lv_if_eq (tgt := 19) hx hb dX4_rhyme_4 (by decide) (fun c2 => ?_) (fun c2 => ?_)
  · rw [if_pos c2] at hf
    refine lv_iconst (v := (-1)) hx hb dX4_rhyme_19 (by decide) ?_
    obtain rfl := Option.some.inj hf
    exact hret rfl rfl rfl hP hD hS dX4_rhyme_20
  · rw [if_neg c2] at hf
    refine lv_iload_n hx hb dX4_rhyme_7 rfl (lv_at hl 2 rfl) ?_
    obtain ⟨o3, ho3, hf⟩ := bd_el hf
    refine kc0_i (D := D) (va_runS (As := [.int p1]) (rest := []) ⟨hx, hb, hml, hown, hts⟩ ((k_X4_isWord l D K p1 o3 ho3) H.size) (va_cwS 1 hts gX4_rhyme_X4_isWord rfl rfl rfl yd_X4_isWord ⟨Nat.le_of_ble_eq_true rfl, Nat.le_of_ble_eq_true rfl⟩) (kPreS va_P_nil (va_D_nil (A := fun _ => True)) hK hN) rfl rfl hl.1 rfl (lv_room (Nat.le_of_ble_eq_true rfl)) dX4_rhyme_8 ⟨Nat.le_of_ble_eq_true rfl, Nat.le_of_ble_eq_true rfl⟩) hP hS hA (fun hzo3 H locs hP hS => ?_)
    refine lv_if_eq (tgt := 19) hx hb dX4_rhyme_11 (by decide) (fun c4 => ?_) (fun c4 => ?_)
    · rw [if_pos c4] at hf
      refine lv_iconst (v := (-1)) hx hb dX4_rhyme_19 (by decide) ?_
      obtain rfl := Option.some.inj hf
      exact hret rfl rfl rfl hP hD hS dX4_rhyme_20
    · rw [if_neg c4] at hf
      refine lv_iload_n hx hb dX4_rhyme_14 rfl (lv_at hl 1 rfl) ?_
      refine lv_iload_n hx hb dX4_rhyme_15 rfl (lv_at hl 2 rfl) ?_
      refine lv_icmp_ne (tgt := 21) hx hb dX4_rhyme_16 (by decide) (fun c5 => ?_) (fun c5 => ?_)
      · rw [if_neg c5] at hf
        refine lv_aload_n hx hb dX4_rhyme_21 rfl (lv_at hl 0 rfl) ?_
        refine va_get (D := D) (ci := 4) (v := .ref (q 0)) (C := RX4) (T := TX4) (N := 7) hx hb hts inX4_rhyme_X4 hown hK hP 0 rfl rfl 0 (by decide) (hts (.fieldLink RX4 10 "WordScales" "shop" "LWordScales$Shop;") (List.mem_of_getElem? (i := 1) rfl)) (fun _ h9 => h9) rfl dX4_rhyme_22 ?_
        refine lv_iload_n hx hb dX4_rhyme_25 rfl (lv_at hl 1 rfl) ?_
        refine lv_iload_n hx hb dX4_rhyme_26 rfl (lv_at hl 2 rfl) ?_
        obtain ⟨o6, ho6, hf⟩ := ob_el hf
        have hPc : va_P D vwCl (shW K q vw vk vr vp vb vi vwc vl vg vo vsc) H := hP.sub [1, 2, 3, 4, 5, 6, 7, 8, 9, 10] rfl
        have hDc : va_D A (shW K q vw vk vr vp vb vi vwc vl vg vo vsc) := hD.sub [1, 2, 3, 4, 5, 6, 7, 8, 9, 10] (by decide) rfl
        refine kcg_v (D := D) (wc := (shW K q vw vk vr vp vb vi vwc vl vg vo vsc)) (wc' := (shW K q vw vk o6 vp vb vi vwc vl vg vo vsc)) (wr := [0].filterMap (fun i => (((xoW ax (q 0) zyearShop zimages zsigns zdays zmeans vsgc) ++ (shW K q vw vk vr vp vb vi vwc vl vg vo vsc)) : va_W)[i]?)) (ws2 := ((xoW ax (q 0) zyearShop zimages zsigns zdays zmeans vsgc) ++ (shW K q vw vk o6 vp vb vi vwc vl vg vo vsc))) (va_runVN (As := [.int p0, .int p1]) (rest := []) ⟨hx, hb, hml, hown, hts⟩ ((k_X3_joinRhymes l D K q vw vk vr vp vb vi vwc vl vg vo vsc p0 p1 o6 ho6) H.size) ⟨va_cnB 2 hts gX4_rhyme_X3_joinRhymes_n56 rfl rfl rfl (hN _ (List.mem_of_getElem? (i := 32) rfl)) (hts (.initialized RX3) (List.mem_of_getElem? (i := 10) rfl)) yd_X3_joinRhymes ⟨Nat.le_of_ble_eq_true rfl, Nat.le_of_ble_eq_true rfl⟩, (hts (.instanceMethod yX3_joinRhymes) (List.mem_of_getElem? (i := 9) rfl)), (hts (.selects RX3 yX3_joinRhymes yX3_joinRhymes) (List.mem_of_getElem? (i := 11) rfl))⟩ (kPreV (ci := 3) (q0 := 1) hP rfl rfl hPc hDc hK hN) rfl rfl hl.1 rfl (lv_room (Nat.le_of_ble_eq_true rfl)) dX4_rhyme_27 ⟨Nat.le_of_ble_eq_true rfl, Nat.le_of_ble_eq_true rfl⟩) hP hD hS hA [1, 2, 3, 4, 5, 6, 7, 8, 9, 10] [0] [0, 1, 2, 3, 4, 5, 6, 7, 8, 9, 10] rfl rfl (by decide) (by decide) rfl (by decide) (fun H locs hP hD hS => ?_)
        refine lv_aload_n hx hb dX4_rhyme_30 rfl (lv_at hl 0 rfl) ?_
        refine va_get (D := D) (ci := 4) (v := .ref (q 0)) (C := RX4) (T := TX4) (N := 7) hx hb hts inX4_rhyme_X4 hown hK hP 0 rfl rfl 0 (by decide) (hts (.fieldLink RX4 10 "WordScales" "shop" "LWordScales$Shop;") (List.mem_of_getElem? (i := 1) rfl)) (fun _ h9 => h9) rfl dX4_rhyme_31 ?_
        refine va_getN (D := D) (host := "WordScales") (ci := 3) (v := .ref (q 3)) (C := RX3) (T := TX3) (N := 11) hx hb hts inX4_rhyme_X3 hown hK hP 1 rfl rfl 2 (by decide) (va_Nw.use rfl (hN _ (List.mem_of_getElem? (i := 4) rfl))) (fun _ h9 => h9) rfl dX4_rhyme_34 ?_
        refine lv_iload_n hx hb dX4_rhyme_37 rfl (lv_at hl 1 rfl) ?_
        obtain ⟨v7, hf⟩ := chk_el hf
        refine va_iald (D := D) (f := o6) hx hb hK hP 4 0 rfl rfl v7 dX4_rhyme_38 ?_
        obtain ⟨o8, ho8, hf⟩ := bd_el hf
        refine kc0_i (D := D) (va_runS (As := [.int (o6 (p0).toNatClampNeg)]) (rest := []) ⟨hx, hb, hml, hown, hts⟩ ((k_J6_bitCount_0f7a4 l D K (o6 (p0).toNatClampNeg) o8 ho8) H.size) (va_cwS 1 hts gX4_rhyme_J6_bitCount_0f7a4 rfl rfl rfl yd_J6_bitCount_0f7a4 ⟨Nat.le_of_ble_eq_true rfl, Nat.le_of_ble_eq_true rfl⟩) (kPreS va_P_nil (va_D_nil (A := fun _ => True)) hK hN) rfl rfl hl.1 rfl (lv_room (Nat.le_of_ble_eq_true rfl)) dX4_rhyme_39 ⟨Nat.le_of_ble_eq_true rfl, Nat.le_of_ble_eq_true rfl⟩) hP hS hA (fun hzo8 H locs hP hS => ?_)
        refine lv_iconst (v := 1) hx hb dX4_rhyme_42 (by decide) ?_
        refine lv_isub hx hb dX4_rhyme_43 ?_
        obtain rfl := Option.some.inj hf
        exact hret rfl rfl rfl hP hD hS dX4_rhyme_44
      · rw [if_pos c5] at hf
        refine lv_iconst (v := (-1)) hx hb dX4_rhyme_19 (by decide) ?_
        obtain rfl := Option.some.inj hf
        exact hret rfl rfl rfl hP hD hS dX4_rhyme_20
def f_X4_part (vr : Nat → Int32) (p0 : Int32) : Option (Int32 × (Nat → Int32)) := bd (f_X4_isWord p0) (fun o1 => if o1 = 0 then (some ((-1), vr)) else (chk p0 12 (bd (f_J6_bitCount_0f7a4 (vr (p0).toNatClampNeg)) (fun o4 => ob (f_X3_leaveRhymes vr p0) (fun o5 => some ((o4 - 1), o5))))))
theorem inX4_part_X3 : ∀ w ∈ wsX30, w ∈ wsX4_part := fun w h => List.mem_cons_of_mem _ (List.mem_append_right _ h)
theorem inX4_part_X4 : ∀ w ∈ wsX40, w ∈ wsX4_part := fun w h => List.mem_cons_of_mem _ (List.mem_append_left _ (List.mem_append_right _ h))
theorem yd_X4_part : yX4_part.cls ≠ "java/lang/invoke/MethodHandle" ∧ yX4_part.cls ≠ "java/lang/invoke/VarHandle" ∧ (parseMethodDescriptor yX4_part.desc).map (fun d => d.parameters.length) = some 1 := by decide +kernel
abbrev rmX4_part : Room := { frames := 3, cells := 0, slots := 0, locals := 65 }
set_option maxHeartbeats 4000000 in
set_option maxRecDepth 100000 in
theorem k_X4_part (l : Launch) (D : va_G) (K : Nat → ClassId) (ax : Nat) (q : Nat → Nat) (zyearShop : Nat) (zimages : Nat) (zsigns : Nat) (zdays : Nat) (zmeans : Nat) (vsgc : Int32) (vw : Nat → Int32) (vk : Nat → Int32) (vr : Nat → Int32) (vp : Nat → Int32) (vb : Nat → Int32) (vi : Nat → Int32) (vwc : Int32) (vl : Nat → Int32) (vg : Nat → Int32) (vo : Nat → Int32) (vsc : Int32) (p0 : Int32) (out : Int32 × (Nat → Int32)) (hf : f_X4_part vr p0 = some out) : kI l D K .int yX4_part wsX4_part rmX4_part [.ref ax, .int p0] ((xoW ax (q 0) zyearShop zimages zsigns zdays zmeans vsgc) ++ (shW K q vw vk vr vp vb vi vwc vl vg vo vsc)) out.1 ((xoW ax (q 0) zyearShop zimages zsigns zdays zmeans vsgc) ++ (shW K q vw vk out.2 vp vb vi vwc vl vg vo vsc)) := by
  refine kI.of (cc := cX4_part) (maxL := 3) (by decide) rfl (Nat.le_of_ble_eq_true rfl) ?_
  intro p e s m args below meth c A H0 Q ls hx hb hml hown hts hK hN hA hP hD hS hl hret
  have hown : s.vm.findClass RX4 = some m.cls := hown
  have hl : lv_has ls 3 [(0, .ref ax), (1, .int p0)] := hl
  generalize hH : H0 = H at hP ⊢
  have hS : va_S A H0 H [] := by rw [← hH]; exact hS
  clear hH
  unfold f_X4_part at hf
  refine lv_iload_n hx hb dX4_part_0 rfl (lv_at hl 1 rfl) ?_
  obtain ⟨o1, ho1, hf⟩ := bd_el hf
  refine kc0_i (D := D) (va_runS (As := [.int p0]) (rest := []) ⟨hx, hb, hml, hown, hts⟩ ((k_X4_isWord l D K p0 o1 ho1) H.size) (va_cwS 1 hts gX4_part_X4_isWord rfl rfl rfl yd_X4_isWord ⟨Nat.le_of_ble_eq_true rfl, Nat.le_of_ble_eq_true rfl⟩) (kPreS va_P_nil (va_D_nil (A := fun _ => True)) hK hN) rfl rfl hl.1 rfl (lv_room (Nat.le_of_ble_eq_true rfl)) dX4_part_1 ⟨Nat.le_of_ble_eq_true rfl, Nat.le_of_ble_eq_true rfl⟩) hP hS hA (fun hzo1 H locs hP hS => ?_)
  refine lv_if_ne (tgt := 9) hx hb dX4_part_4 (by decide) (fun c2 => ?_) (fun c2 => ?_)
  · rw [if_neg c2] at hf
    refine lv_aload_n hx hb dX4_part_9 rfl (lv_at hl 0 rfl) ?_
    refine va_get (D := D) (ci := 4) (v := .ref (q 0)) (C := RX4) (T := TX4) (N := 7) hx hb hts inX4_part_X4 hown hK hP 0 rfl rfl 0 (by decide) (hts (.fieldLink RX4 10 "WordScales" "shop" "LWordScales$Shop;") (List.mem_of_getElem? (i := 1) rfl)) (fun _ h9 => h9) rfl dX4_part_10 ?_
    refine va_getN (D := D) (host := "WordScales") (ci := 3) (v := .ref (q 3)) (C := RX3) (T := TX3) (N := 11) hx hb hts inX4_part_X3 hown hK hP 1 rfl rfl 2 (by decide) (va_Nw.use rfl (hN _ (List.mem_of_getElem? (i := 4) rfl))) (fun _ h9 => h9) rfl dX4_part_13 ?_
    refine lv_iload_n hx hb dX4_part_16 rfl (lv_at hl 1 rfl) ?_
    obtain ⟨v3, hf⟩ := chk_el hf
    refine va_iald (D := D) (f := vr) hx hb hK hP 4 0 rfl rfl v3 dX4_part_17 ?_
    obtain ⟨o4, ho4, hf⟩ := bd_el hf
    refine kc0_i (D := D) (va_runS (As := [.int (vr (p0).toNatClampNeg)]) (rest := []) ⟨hx, hb, hml, hown, hts⟩ ((k_J6_bitCount_0f7a4 l D K (vr (p0).toNatClampNeg) o4 ho4) H.size) (va_cwS 1 hts gX4_part_J6_bitCount_0f7a4 rfl rfl rfl yd_J6_bitCount_0f7a4 ⟨Nat.le_of_ble_eq_true rfl, Nat.le_of_ble_eq_true rfl⟩) (kPreS va_P_nil (va_D_nil (A := fun _ => True)) hK hN) rfl rfl hl.1 rfl (lv_room (Nat.le_of_ble_eq_true rfl)) dX4_part_18 ⟨Nat.le_of_ble_eq_true rfl, Nat.le_of_ble_eq_true rfl⟩) hP hS hA (fun hzo4 H locs hP hS => ?_)
    refine lv_iconst (v := 1) hx hb dX4_part_21 (by decide) ?_
    refine lv_isub hx hb dX4_part_22 ?_
    refine lv_istore_n (lv' := [(2, .int (o4 - 1)), (0, .ref ax), (1, .int p0)]) hx hb dX4_part_23 rfl hl (by decide) rfl (fun ls hl => ?_)
    refine lv_aload_n hx hb dX4_part_24 rfl (lv_at hl 1 rfl) ?_
    refine va_get (D := D) (ci := 4) (v := .ref (q 0)) (C := RX4) (T := TX4) (N := 7) hx hb hts inX4_part_X4 hown hK hP 0 rfl rfl 0 (by decide) (hts (.fieldLink RX4 10 "WordScales" "shop" "LWordScales$Shop;") (List.mem_of_getElem? (i := 1) rfl)) (fun _ h9 => h9) rfl dX4_part_25 ?_
    refine lv_iload_n hx hb dX4_part_28 rfl (lv_at hl 2 rfl) ?_
    obtain ⟨o5, ho5, hf⟩ := ob_el hf
    have hPc : va_P D vwCl (shW K q vw vk vr vp vb vi vwc vl vg vo vsc) H := hP.sub [1, 2, 3, 4, 5, 6, 7, 8, 9, 10] rfl
    have hDc : va_D A (shW K q vw vk vr vp vb vi vwc vl vg vo vsc) := hD.sub [1, 2, 3, 4, 5, 6, 7, 8, 9, 10] (by decide) rfl
    refine kcg_v (D := D) (wc := (shW K q vw vk vr vp vb vi vwc vl vg vo vsc)) (wc' := (shW K q vw vk o5 vp vb vi vwc vl vg vo vsc)) (wr := [0].filterMap (fun i => (((xoW ax (q 0) zyearShop zimages zsigns zdays zmeans vsgc) ++ (shW K q vw vk vr vp vb vi vwc vl vg vo vsc)) : va_W)[i]?)) (ws2 := ((xoW ax (q 0) zyearShop zimages zsigns zdays zmeans vsgc) ++ (shW K q vw vk o5 vp vb vi vwc vl vg vo vsc))) (va_runVN (As := [.int p0]) (rest := []) ⟨hx, hb, hml, hown, hts⟩ ((k_X3_leaveRhymes l D K q vw vk vr vp vb vi vwc vl vg vo vsc p0 o5 ho5) H.size) ⟨va_cnB 1 hts gX4_part_X3_leaveRhymes_n69 rfl rfl rfl (hN _ (List.mem_of_getElem? (i := 35) rfl)) (hts (.initialized RX3) (List.mem_of_getElem? (i := 17) rfl)) yd_X3_leaveRhymes ⟨Nat.le_of_ble_eq_true rfl, Nat.le_of_ble_eq_true rfl⟩, (hts (.instanceMethod yX3_leaveRhymes) (List.mem_of_getElem? (i := 16) rfl)), (hts (.selects RX3 yX3_leaveRhymes yX3_leaveRhymes) (List.mem_of_getElem? (i := 18) rfl))⟩ (kPreV (ci := 3) (q0 := 1) hP rfl rfl hPc hDc hK hN) rfl rfl hl.1 rfl (lv_room (Nat.le_of_ble_eq_true rfl)) dX4_part_29 ⟨Nat.le_of_ble_eq_true rfl, Nat.le_of_ble_eq_true rfl⟩) hP hD hS hA [1, 2, 3, 4, 5, 6, 7, 8, 9, 10] [0] [0, 1, 2, 3, 4, 5, 6, 7, 8, 9, 10] rfl rfl (by decide) (by decide) rfl (by decide) (fun H locs hP hD hS => ?_)
    refine lv_iload_n hx hb dX4_part_32 rfl (lv_at hl 0 rfl) ?_
    obtain rfl := Option.some.inj hf
    exact hret rfl rfl rfl hP hD hS dX4_part_33
  · rw [if_pos c2] at hf
    refine lv_iconst (v := (-1)) hx hb dX4_part_7 (by decide) ?_
    obtain rfl := Option.some.inj hf
    exact hret rfl rfl rfl hP hD hS dX4_part_8
def f_X4_speaker (vp : Nat → Int32) (vb : Nat → Int32) (p0 : Int32) (p1 : Int32) (p2 : Int32) : Option (Int32 × (Nat → Int32) × (Nat → Int32)) := bd (f_X4_isSpeaker p0) (fun o1 => if o1 = 0 then (some ((-1), vp, vb)) else (bd (f_X4_isWithin p1 (0) (999)) (fun o3 => if o3 = 0 then (some ((-2), vp, vb)) else (bd (f_X4_isSet p2) (fun o5 => if o5 = 0 then (some ((-2), vp, vb)) else (chk p0 4 (some ((vp (p0).toNatClampNeg), (upd vp (p0).toNatClampNeg p1), (upd vb (p0).toNatClampNeg p2)))))))))
theorem inX4_speaker_X3 : ∀ w ∈ wsX30, w ∈ wsX4_speaker := fun w h => List.mem_cons_of_mem _ (List.mem_append_right _ h)
theorem inX4_speaker_X4 : ∀ w ∈ wsX40, w ∈ wsX4_speaker := fun w h => List.mem_cons_of_mem _ (List.mem_append_left _ (List.mem_append_right _ h))
theorem yd_X4_speaker : yX4_speaker.cls ≠ "java/lang/invoke/MethodHandle" ∧ yX4_speaker.cls ≠ "java/lang/invoke/VarHandle" ∧ (parseMethodDescriptor yX4_speaker.desc).map (fun d => d.parameters.length) = some 3 := by decide +kernel
abbrev rmX4_speaker : Room := { frames := 2, cells := 0, slots := 0, locals := 42 }
set_option maxHeartbeats 4000000 in
set_option maxRecDepth 100000 in
theorem k_X4_speaker (l : Launch) (D : va_G) (K : Nat → ClassId) (ax : Nat) (q : Nat → Nat) (zyearShop : Nat) (zimages : Nat) (zsigns : Nat) (zdays : Nat) (zmeans : Nat) (vsgc : Int32) (vw : Nat → Int32) (vk : Nat → Int32) (vr : Nat → Int32) (vp : Nat → Int32) (vb : Nat → Int32) (vi : Nat → Int32) (vwc : Int32) (vl : Nat → Int32) (vg : Nat → Int32) (vo : Nat → Int32) (vsc : Int32) (p0 : Int32) (p1 : Int32) (p2 : Int32) (out : Int32 × (Nat → Int32) × (Nat → Int32)) (hf : f_X4_speaker vp vb p0 p1 p2 = some out) : kI l D K .int yX4_speaker wsX4_speaker rmX4_speaker [.ref ax, .int p0, .int p1, .int p2] ((xoW ax (q 0) zyearShop zimages zsigns zdays zmeans vsgc) ++ (shW K q vw vk vr vp vb vi vwc vl vg vo vsc)) out.1 ((xoW ax (q 0) zyearShop zimages zsigns zdays zmeans vsgc) ++ (shW K q vw vk vr out.2.1 out.2.2 vi vwc vl vg vo vsc)) := by
  refine kI.of (cc := cX4_speaker) (maxL := 5) (by decide) rfl (Nat.le_of_ble_eq_true rfl) ?_
  intro p e s m args below meth c A H0 Q ls hx hb hml hown hts hK hN hA hP hD hS hl hret
  have hown : s.vm.findClass RX4 = some m.cls := hown
  have hl : lv_has ls 5 [(0, .ref ax), (1, .int p0), (2, .int p1), (3, .int p2)] := hl
  generalize hH : H0 = H at hP ⊢
  have hS : va_S A H0 H [] := by rw [← hH]; exact hS
  clear hH
  unfold f_X4_speaker at hf
  refine lv_iload_n hx hb dX4_speaker_0 rfl (lv_at hl 1 rfl) ?_
  obtain ⟨o1, ho1, hf⟩ := bd_el hf
  refine kc0_i (D := D) (va_runS (As := [.int p0]) (rest := []) ⟨hx, hb, hml, hown, hts⟩ ((k_X4_isSpeaker l D K p0 o1 ho1) H.size) (va_cwS 1 hts gX4_speaker_X4_isSpeaker rfl rfl rfl yd_X4_isSpeaker ⟨Nat.le_of_ble_eq_true rfl, Nat.le_of_ble_eq_true rfl⟩) (kPreS va_P_nil (va_D_nil (A := fun _ => True)) hK hN) rfl rfl hl.1 rfl (lv_room (Nat.le_of_ble_eq_true rfl)) dX4_speaker_1 ⟨Nat.le_of_ble_eq_true rfl, Nat.le_of_ble_eq_true rfl⟩) hP hS hA (fun hzo1 H locs hP hS => ?_)
  refine lv_if_ne (tgt := 9) hx hb dX4_speaker_4 (by decide) (fun c2 => ?_) (fun c2 => ?_)
  · rw [if_neg c2] at hf
    refine lv_iload_n hx hb dX4_speaker_9 rfl (lv_at hl 2 rfl) ?_
    refine lv_iconst (v := 0) hx hb dX4_speaker_10 (by decide) ?_
    refine lv_sipush (v := 999) hx hb dX4_speaker_11 (by decide) ?_
    obtain ⟨o3, ho3, hf⟩ := bd_el hf
    refine kc0_i (D := D) (va_runS (As := [.int p1, .int 0, .int 999]) (rest := []) ⟨hx, hb, hml, hown, hts⟩ ((k_X4_isWithin l D K p1 (0) (999) o3 ho3) H.size) (va_cwS 3 hts gX4_speaker_X4_isWithin rfl rfl rfl yd_X4_isWithin ⟨Nat.le_of_ble_eq_true rfl, Nat.le_of_ble_eq_true rfl⟩) (kPreS va_P_nil (va_D_nil (A := fun _ => True)) hK hN) rfl rfl hl.1 rfl (lv_room (Nat.le_of_ble_eq_true rfl)) dX4_speaker_14 ⟨Nat.le_of_ble_eq_true rfl, Nat.le_of_ble_eq_true rfl⟩) hP hS hA (fun hzo3 H locs hP hS => ?_)
    refine lv_if_eq (tgt := 27) hx hb dX4_speaker_17 (by decide) (fun c4 => ?_) (fun c4 => ?_)
    · rw [if_pos c4] at hf
      refine lv_bipush (v := (-2)) hx hb dX4_speaker_27 (by decide) ?_
      obtain rfl := Option.some.inj hf
      exact hret rfl rfl rfl hP hD hS dX4_speaker_29
    · rw [if_neg c4] at hf
      refine lv_iload_n hx hb dX4_speaker_20 rfl (lv_at hl 3 rfl) ?_
      obtain ⟨o5, ho5, hf⟩ := bd_el hf
      refine kc0_i (D := D) (va_runS (As := [.int p2]) (rest := []) ⟨hx, hb, hml, hown, hts⟩ ((k_X4_isSet l D K p2 o5 ho5) H.size) (va_cwS 1 hts gX4_speaker_X4_isSet rfl rfl rfl yd_X4_isSet ⟨Nat.le_of_ble_eq_true rfl, Nat.le_of_ble_eq_true rfl⟩) (kPreS va_P_nil (va_D_nil (A := fun _ => True)) hK hN) rfl rfl hl.1 rfl (lv_room (Nat.le_of_ble_eq_true rfl)) dX4_speaker_21 ⟨Nat.le_of_ble_eq_true rfl, Nat.le_of_ble_eq_true rfl⟩) hP hS hA (fun hzo5 H locs hP hS => ?_)
      refine lv_if_ne (tgt := 30) hx hb dX4_speaker_24 (by decide) (fun c6 => ?_) (fun c6 => ?_)
      · rw [if_neg c6] at hf
        refine lv_aload_n hx hb dX4_speaker_30 rfl (lv_at hl 0 rfl) ?_
        refine va_get (D := D) (ci := 4) (v := .ref (q 0)) (C := RX4) (T := TX4) (N := 7) hx hb hts inX4_speaker_X4 hown hK hP 0 rfl rfl 0 (by decide) (hts (.fieldLink RX4 10 "WordScales" "shop" "LWordScales$Shop;") (List.mem_of_getElem? (i := 1) rfl)) (fun _ h9 => h9) rfl dX4_speaker_31 ?_
        refine va_getN (D := D) (host := "WordScales") (ci := 3) (v := .ref (q 4)) (C := RX3) (T := TX3) (N := 11) hx hb hts inX4_speaker_X3 hown hK hP 1 rfl rfl 3 (by decide) (va_Nw.use rfl (hN _ (List.mem_of_getElem? (i := 5) rfl))) (fun _ h9 => h9) rfl dX4_speaker_34 ?_
        refine lv_iload_n hx hb dX4_speaker_37 rfl (lv_at hl 1 rfl) ?_
        obtain ⟨v7, hf⟩ := chk_el hf
        refine va_iald (D := D) (f := vp) hx hb hK hP 5 0 rfl rfl v7 dX4_speaker_38 ?_
        refine lv_istore (lv' := [(4, .int (vp (p0).toNatClampNeg)), (0, .ref ax), (1, .int p0), (2, .int p1), (3, .int p2)]) hx hb dX4_speaker_39 hl (by decide) rfl (fun ls hl => ?_)
        refine lv_aload_n hx hb dX4_speaker_41 rfl (lv_at hl 1 rfl) ?_
        refine va_get (D := D) (ci := 4) (v := .ref (q 0)) (C := RX4) (T := TX4) (N := 7) hx hb hts inX4_speaker_X4 hown hK hP 0 rfl rfl 0 (by decide) (hts (.fieldLink RX4 10 "WordScales" "shop" "LWordScales$Shop;") (List.mem_of_getElem? (i := 1) rfl)) (fun _ h9 => h9) rfl dX4_speaker_42 ?_
        refine va_getN (D := D) (host := "WordScales") (ci := 3) (v := .ref (q 4)) (C := RX3) (T := TX3) (N := 11) hx hb hts inX4_speaker_X3 hown hK hP 1 rfl rfl 3 (by decide) (va_Nw.use rfl (hN _ (List.mem_of_getElem? (i := 5) rfl))) (fun _ h9 => h9) rfl dX4_speaker_45 ?_
        refine lv_iload_n hx hb dX4_speaker_48 rfl (lv_at hl 2 rfl) ?_
        refine lv_iload_n hx hb dX4_speaker_49 rfl (lv_at hl 3 rfl) ?_
        refine va_iast (D := D) (f := vp) hx hb hK hP hD hS 5 0 rfl rfl v7 dX4_speaker_50 (fun H locs hP hD hS => ?_)
        have hP : va_P D vwCl ((xoW ax (q 0) zyearShop zimages zsigns zdays zmeans vsgc) ++ (shW K q vw vk vr (upd vp (p0).toNatClampNeg p1) vb vi vwc vl vg vo vsc)) H := hP
        have hD : va_D A ((xoW ax (q 0) zyearShop zimages zsigns zdays zmeans vsgc) ++ (shW K q vw vk vr (upd vp (p0).toNatClampNeg p1) vb vi vwc vl vg vo vsc)) := hD
        refine lv_aload_n hx hb dX4_speaker_51 rfl (lv_at hl 1 rfl) ?_
        refine va_get (D := D) (ci := 4) (v := .ref (q 0)) (C := RX4) (T := TX4) (N := 7) hx hb hts inX4_speaker_X4 hown hK hP 0 rfl rfl 0 (by decide) (hts (.fieldLink RX4 10 "WordScales" "shop" "LWordScales$Shop;") (List.mem_of_getElem? (i := 1) rfl)) (fun _ h9 => h9) rfl dX4_speaker_52 ?_
        refine va_getN (D := D) (host := "WordScales") (ci := 3) (v := .ref (q 5)) (C := RX3) (T := TX3) (N := 11) hx hb hts inX4_speaker_X3 hown hK hP 1 rfl rfl 4 (by decide) (va_Nw.use rfl (hN _ (List.mem_of_getElem? (i := 6) rfl))) (fun _ h9 => h9) rfl dX4_speaker_55 ?_
        refine lv_iload_n hx hb dX4_speaker_58 rfl (lv_at hl 2 rfl) ?_
        refine lv_iload_n hx hb dX4_speaker_59 rfl (lv_at hl 4 rfl) ?_
        refine va_iast (D := D) (f := vb) hx hb hK hP hD hS 6 0 rfl rfl v7 dX4_speaker_60 (fun H locs hP hD hS => ?_)
        have hP : va_P D vwCl ((xoW ax (q 0) zyearShop zimages zsigns zdays zmeans vsgc) ++ (shW K q vw vk vr (upd vp (p0).toNatClampNeg p1) (upd vb (p0).toNatClampNeg p2) vi vwc vl vg vo vsc)) H := hP
        have hD : va_D A ((xoW ax (q 0) zyearShop zimages zsigns zdays zmeans vsgc) ++ (shW K q vw vk vr (upd vp (p0).toNatClampNeg p1) (upd vb (p0).toNatClampNeg p2) vi vwc vl vg vo vsc)) := hD
        refine lv_iload hx hb dX4_speaker_61 (lv_at hl 0 rfl) ?_
        obtain rfl := Option.some.inj hf
        exact hret rfl rfl rfl hP hD hS dX4_speaker_63
      · rw [if_pos c6] at hf
        refine lv_bipush (v := (-2)) hx hb dX4_speaker_27 (by decide) ?_
        obtain rfl := Option.some.inj hf
        exact hret rfl rfl rfl hP hD hS dX4_speaker_29
  · rw [if_pos c2] at hf
    refine lv_iconst (v := (-1)) hx hb dX4_speaker_7 (by decide) ?_
    obtain rfl := Option.some.inj hf
    exact hret rfl rfl rfl hP hD hS dX4_speaker_8
def f_X4_say (vsgc : Int32) (vfg : Nat → Int32) (p0 : Int32) : Option (Int32 × Int32 × (Nat → Int32)) := bd (f_X4_isWithin p0 (33) (126)) (fun o1 => if o1 = 0 then (some ((-2), vsgc, vfg)) else (bd (f_X4_isWithin vsgc (0) (59)) (fun o3 => if o3 = 0 then (some ((-4), vsgc, vfg)) else (chk vsgc 60 (some ((vsgc + 1), (vsgc + 1), (upd vfg (vsgc).toNatClampNeg p0)))))))
theorem inX4_say_X4 : ∀ w ∈ wsX40, w ∈ wsX4_say := fun w h => List.mem_cons_of_mem _ (List.mem_append_right _ h)
theorem yd_X4_say : yX4_say.cls ≠ "java/lang/invoke/MethodHandle" ∧ yX4_say.cls ≠ "java/lang/invoke/VarHandle" ∧ (parseMethodDescriptor yX4_say.desc).map (fun d => d.parameters.length) = some 1 := by decide +kernel
abbrev rmX4_say : Room := { frames := 1, cells := 0, slots := 0, locals := 22 }
set_option maxHeartbeats 4000000 in
set_option maxRecDepth 100000 in
theorem k_X4_say (l : Launch) (D : va_G) (K : Nat → ClassId) (ax : Nat) (aig : Nat) (zshop : Nat) (zyearShop : Nat) (zimages : Nat) (zdays : Nat) (zmeans : Nat) (vsgc : Int32) (vfg : Nat → Int32) (p0 : Int32) (out : Int32 × Int32 × (Nat → Int32)) (hf : f_X4_say vsgc vfg p0 = some out) : kI l D K .int yX4_say wsX4_say rmX4_say [.ref ax, .int p0] ((xoW ax zshop zyearShop zimages aig zdays zmeans vsgc) ++ (iaW K aig 60 vfg)) out.1 ((xoW ax zshop zyearShop zimages aig zdays zmeans out.2.1) ++ (iaW K aig 60 out.2.2)) := by
  refine kI.of (cc := cX4_say) (maxL := 2) (by decide) rfl (Nat.le_of_ble_eq_true rfl) ?_
  intro p e s m args below meth c A H0 Q ls hx hb hml hown hts hK hN hA hP hD hS hl hret
  have hown : s.vm.findClass RX4 = some m.cls := hown
  have hl : lv_has ls 2 [(0, .ref ax), (1, .int p0)] := hl
  generalize hH : H0 = H at hP ⊢
  have hS : va_S A H0 H [] := by rw [← hH]; exact hS
  clear hH
  unfold f_X4_say at hf
  refine lv_iload_n hx hb dX4_say_0 rfl (lv_at hl 1 rfl) ?_
  refine lv_bipush (v := 33) hx hb dX4_say_1 (by decide) ?_
  refine lv_bipush (v := 126) hx hb dX4_say_3 (by decide) ?_
  obtain ⟨o1, ho1, hf⟩ := bd_el hf
  refine kc0_i (D := D) (va_runS (As := [.int p0, .int 33, .int 126]) (rest := []) ⟨hx, hb, hml, hown, hts⟩ ((k_X4_isWithin l D K p0 (33) (126) o1 ho1) H.size) (va_cwS 3 hts gX4_say_X4_isWithin rfl rfl rfl yd_X4_isWithin ⟨Nat.le_of_ble_eq_true rfl, Nat.le_of_ble_eq_true rfl⟩) (kPreS va_P_nil (va_D_nil (A := fun _ => True)) hK hN) rfl rfl hl.1 rfl (lv_room (Nat.le_of_ble_eq_true rfl)) dX4_say_5 ⟨Nat.le_of_ble_eq_true rfl, Nat.le_of_ble_eq_true rfl⟩) hP hS hA (fun hzo1 H locs hP hS => ?_)
  refine lv_if_ne (tgt := 14) hx hb dX4_say_8 (by decide) (fun c2 => ?_) (fun c2 => ?_)
  · rw [if_neg c2] at hf
    refine lv_aload_n hx hb dX4_say_14 rfl (lv_at hl 0 rfl) ?_
    refine va_get (D := D) (ci := 4) (v := .int vsgc) (C := RX4) (T := TX4) (N := 7) hx hb hts inX4_say_X4 hown hK hP 0 rfl rfl 4 (by decide) (hts (.fieldLink RX4 27 "WordScales" "signCount" "I") (List.mem_of_getElem? (i := 1) rfl)) (fun _ h9 => h9) rfl dX4_say_15 ?_
    refine lv_iconst (v := 0) hx hb dX4_say_18 (by decide) ?_
    refine lv_bipush (v := 59) hx hb dX4_say_19 (by decide) ?_
    obtain ⟨o3, ho3, hf⟩ := bd_el hf
    refine kc0_i (D := D) (va_runS (As := [.int vsgc, .int 0, .int 59]) (rest := []) ⟨hx, hb, hml, hown, hts⟩ ((k_X4_isWithin l D K vsgc (0) (59) o3 ho3) H.size) (va_cwS 3 hts gX4_say_X4_isWithin rfl rfl rfl yd_X4_isWithin ⟨Nat.le_of_ble_eq_true rfl, Nat.le_of_ble_eq_true rfl⟩) (kPreS va_P_nil (va_D_nil (A := fun _ => True)) hK hN) rfl rfl hl.1 rfl (lv_room (Nat.le_of_ble_eq_true rfl)) dX4_say_21 ⟨Nat.le_of_ble_eq_true rfl, Nat.le_of_ble_eq_true rfl⟩) hP hS hA (fun hzo3 H locs hP hS => ?_)
    refine lv_if_ne (tgt := 30) hx hb dX4_say_24 (by decide) (fun c4 => ?_) (fun c4 => ?_)
    · rw [if_neg c4] at hf
      refine lv_aload_n hx hb dX4_say_30 rfl (lv_at hl 0 rfl) ?_
      refine va_get (D := D) (ci := 4) (v := .ref aig) (C := RX4) (T := TX4) (N := 7) hx hb hts inX4_say_X4 hown hK hP 0 rfl rfl 3 (by decide) (hts (.fieldLink RX4 23 "WordScales" "signs" "[I") (List.mem_of_getElem? (i := 2) rfl)) (fun _ h9 => h9) rfl dX4_say_31 ?_
      refine lv_aload_n hx hb dX4_say_34 rfl (lv_at hl 0 rfl) ?_
      refine va_get (D := D) (ci := 4) (v := .int vsgc) (C := RX4) (T := TX4) (N := 7) hx hb hts inX4_say_X4 hown hK hP 0 rfl rfl 4 (by decide) (hts (.fieldLink RX4 27 "WordScales" "signCount" "I") (List.mem_of_getElem? (i := 1) rfl)) (fun _ h9 => h9) rfl dX4_say_35 ?_
      refine lv_iload_n hx hb dX4_say_38 rfl (lv_at hl 1 rfl) ?_
      obtain ⟨v5, hf⟩ := chk_el hf
      refine va_iast (D := D) (f := vfg) hx hb hK hP hD hS 1 0 rfl rfl v5 dX4_say_39 (fun H locs hP hD hS => ?_)
      have hP : va_P D vwCl ((xoW ax zshop zyearShop zimages aig zdays zmeans vsgc) ++ (iaW K aig 60 (upd vfg (vsgc).toNatClampNeg p0))) H := hP
      have hD : va_D A ((xoW ax zshop zyearShop zimages aig zdays zmeans vsgc) ++ (iaW K aig 60 (upd vfg (vsgc).toNatClampNeg p0))) := hD
      refine lv_aload_n hx hb dX4_say_40 rfl (lv_at hl 0 rfl) ?_
      refine lv_dup hx hb dX4_say_41 rfl ?_
      refine va_get (D := D) (ci := 4) (v := .int vsgc) (C := RX4) (T := TX4) (N := 7) hx hb hts inX4_say_X4 hown hK hP 0 rfl rfl 4 (by decide) (hts (.fieldLink RX4 27 "WordScales" "signCount" "I") (List.mem_of_getElem? (i := 1) rfl)) (fun _ h9 => h9) rfl dX4_say_42 ?_
      refine lv_iconst (v := 1) hx hb dX4_say_45 (by decide) ?_
      refine lv_iadd hx hb dX4_say_46 ?_
      refine va_put (D := D) (ci := 4) (v := .int (vsgc + 1)) (ty := .int) (C := RX4) (T := TX4) (N := 7) hx hb hts inX4_say_X4 tyX4 tyX4_ok nmX4 hown hK hP hD hS 0 rfl rfl 4 (by decide) (hts (.fieldLink RX4 27 "WordScales" "signCount" "I") (List.mem_of_getElem? (i := 1) rfl)) (fun _ h9 => h9) rfl (tyX4_ok 4 (by decide)) rfl rfl (Nat.le_of_ble_eq_true rfl) dX4_say_47 (fun H locs hP hD hS => ?_)
      have hP : va_P D vwCl ((xoW ax zshop zyearShop zimages aig zdays zmeans (vsgc + 1)) ++ (iaW K aig 60 (upd vfg (vsgc).toNatClampNeg p0))) H := hP
      have hD : va_D A ((xoW ax zshop zyearShop zimages aig zdays zmeans (vsgc + 1)) ++ (iaW K aig 60 (upd vfg (vsgc).toNatClampNeg p0))) := hD
      refine lv_aload_n hx hb dX4_say_50 rfl (lv_at hl 0 rfl) ?_
      refine va_get (D := D) (ci := 4) (v := .int (vsgc + 1)) (C := RX4) (T := TX4) (N := 7) hx hb hts inX4_say_X4 hown hK hP 0 rfl rfl 4 (by decide) (hts (.fieldLink RX4 27 "WordScales" "signCount" "I") (List.mem_of_getElem? (i := 1) rfl)) (fun _ h9 => h9) rfl dX4_say_51 ?_
      obtain rfl := Option.some.inj hf
      exact hret rfl rfl rfl hP hD hS dX4_say_54
    · rw [if_pos c4] at hf
      refine lv_bipush (v := (-4)) hx hb dX4_say_27 (by decide) ?_
      obtain rfl := Option.some.inj hf
      exact hret rfl rfl rfl hP hD hS dX4_say_29
  · rw [if_pos c2] at hf
    refine lv_bipush (v := (-2)) hx hb dX4_say_11 (by decide) ?_
    obtain rfl := Option.some.inj hf
    exact hret rfl rfl rfl hP hD hS dX4_say_13
def f_X4_wipe (vsgc : Int32) : Int32 × Int32 := (vsgc, 0)
theorem inX4_wipe_X4 : ∀ w ∈ wsX40, w ∈ wsX4_wipe := fun w h => List.mem_cons_of_mem _ (List.mem_append_right _ h)
theorem yd_X4_wipe : yX4_wipe.cls ≠ "java/lang/invoke/MethodHandle" ∧ yX4_wipe.cls ≠ "java/lang/invoke/VarHandle" ∧ (parseMethodDescriptor yX4_wipe.desc).map (fun d => d.parameters.length) = some 0 := by decide +kernel
abbrev rmX4_wipe : Room := { frames := 0, cells := 0, slots := 0, locals := 0 }
set_option maxHeartbeats 4000000 in
set_option maxRecDepth 100000 in
theorem k_X4_wipe (l : Launch) (D : va_G) (K : Nat → ClassId) (ax : Nat) (zshop : Nat) (zyearShop : Nat) (zimages : Nat) (zsigns : Nat) (zdays : Nat) (zmeans : Nat) (vsgc : Int32) (out : Int32 × Int32) (hf : f_X4_wipe vsgc = out) : kI l D K .int yX4_wipe wsX4_wipe rmX4_wipe [.ref ax] (xoW ax zshop zyearShop zimages zsigns zdays zmeans vsgc) out.1 (xoW ax zshop zyearShop zimages zsigns zdays zmeans out.2) := by
  refine kI.of (cc := cX4_wipe) (maxL := 2) (by decide) rfl (Nat.le_of_ble_eq_true rfl) ?_
  intro p e s m args below meth c A H0 Q ls hx hb hml hown hts hK hN hA hP hD hS hl hret
  have hown : s.vm.findClass RX4 = some m.cls := hown
  have hl : lv_has ls 2 [(0, .ref ax)] := hl
  generalize hH : H0 = H at hP ⊢
  have hS : va_S A H0 H [] := by rw [← hH]; exact hS
  clear hH
  unfold f_X4_wipe at hf
  refine lv_aload_n hx hb dX4_wipe_0 rfl (lv_at hl 0 rfl) ?_
  refine va_get (D := D) (ci := 4) (v := .int vsgc) (C := RX4) (T := TX4) (N := 7) hx hb hts inX4_wipe_X4 hown hK hP 0 rfl rfl 4 (by decide) (hts (.fieldLink RX4 27 "WordScales" "signCount" "I") (List.mem_of_getElem? (i := 1) rfl)) (fun _ h9 => h9) rfl dX4_wipe_1 ?_
  refine lv_istore_n (lv' := [(1, .int vsgc), (0, .ref ax)]) hx hb dX4_wipe_4 rfl hl (by decide) rfl (fun ls hl => ?_)
  refine lv_aload_n hx hb dX4_wipe_5 rfl (lv_at hl 1 rfl) ?_
  refine lv_iconst (v := 0) hx hb dX4_wipe_6 (by decide) ?_
  refine va_put (D := D) (ci := 4) (v := .int 0) (ty := .int) (C := RX4) (T := TX4) (N := 7) hx hb hts inX4_wipe_X4 tyX4 tyX4_ok nmX4 hown hK hP hD hS 0 rfl rfl 4 (by decide) (hts (.fieldLink RX4 27 "WordScales" "signCount" "I") (List.mem_of_getElem? (i := 1) rfl)) (fun _ h9 => h9) rfl (tyX4_ok 4 (by decide)) rfl rfl (Nat.le_of_ble_eq_true rfl) dX4_wipe_7 (fun H locs hP hD hS => ?_)
  have hP : va_P D vwCl (xoW ax zshop zyearShop zimages zsigns zdays zmeans 0) H := hP
  have hD : va_D A (xoW ax zshop zyearShop zimages zsigns zdays zmeans 0) := hD
  refine lv_iload_n hx hb dX4_wipe_10 rfl (lv_at hl 0 rfl) ?_
  subst hf
  exact hret rfl rfl rfl hP hD hS dX4_wipe_11
def f_X4_fault (vsgc : Int32) (vdyfp : Int32) (vdyba : Int32) (vrdac : Int32) (vrdsp : Int32) (vrdwo : Int32) (vrdot : Int32) (vwd : Nat → Int32) (vkd : Nat → Int32) (vrd : Nat → Int32) (vpd : Nat → Int32) (vbd : Nat → Int32) (vid : Nat → Int32) (vld : Nat → Int32) (vgd : Nat → Int32) (vod : Nat → Int32) (vfg : Nat → Int32) (vw : Nat → Int32) (vk : Nat → Int32) (vr : Nat → Int32) (vp : Nat → Int32) (vb : Nat → Int32) (vi : Nat → Int32) (vwc : Int32) (vl : Nat → Int32) (vg : Nat → Int32) (vo : Nat → Int32) (vsc : Int32) : Option (Int32 × Int32 × Int32 × Int32 × Int32 × Int32 × Int32 × Int32 × Int32 × Int32 × Int32 × Int32 × Int32 × Int32 × Int32 × Int32 × (Nat → Int32) × (Nat → Int32) × (Nat → Int32) × (Nat → Int32) × (Nat → Int32) × (Nat → Int32) × Int32 × (Nat → Int32) × (Nat → Int32) × (Nat → Int32) × Int32) := ob (f_X1_readAll vdyfp vdyba vrdac vrdsp vrdwo vrdot vwd vkd vrd vpd vbd vid vld vgd vod vfg vw vk vr vp vb vi vwc vl vg vo vsc vsgc) (fun o1 => if o1.1 = (-5) then (some (o1.2.1, o1.2.1, o1.2.2.1, o1.2.2.2.1, o1.2.2.2.2.1, o1.2.2.2.2.2.1, o1.2.2.2.2.2.2.1, o1.2.2.2.2.2.2.2.1, o1.2.2.2.2.2.2.2.2.1, o1.2.2.2.2.2.2.2.2.2.1, o1.2.2.2.2.2.2.2.2.2.2.1, o1.2.2.2.2.2.2.2.2.2.2.2.1, o1.2.2.2.2.2.2.2.2.2.2.2.2.1, o1.2.2.2.2.2.2.2.2.2.2.2.2.2.1, o1.2.2.2.2.2.2.2.2.2.2.2.2.2.2.1, o1.2.2.2.2.2.2.2.2.2.2.2.2.2.2.2.1, o1.2.2.2.2.2.2.2.2.2.2.2.2.2.2.2.2.1, o1.2.2.2.2.2.2.2.2.2.2.2.2.2.2.2.2.2.1, o1.2.2.2.2.2.2.2.2.2.2.2.2.2.2.2.2.2.2.1, o1.2.2.2.2.2.2.2.2.2.2.2.2.2.2.2.2.2.2.2.1, o1.2.2.2.2.2.2.2.2.2.2.2.2.2.2.2.2.2.2.2.2.1, o1.2.2.2.2.2.2.2.2.2.2.2.2.2.2.2.2.2.2.2.2.2.1, o1.2.2.2.2.2.2.2.2.2.2.2.2.2.2.2.2.2.2.2.2.2.2.1, o1.2.2.2.2.2.2.2.2.2.2.2.2.2.2.2.2.2.2.2.2.2.2.2.1, o1.2.2.2.2.2.2.2.2.2.2.2.2.2.2.2.2.2.2.2.2.2.2.2.2.1, o1.2.2.2.2.2.2.2.2.2.2.2.2.2.2.2.2.2.2.2.2.2.2.2.2.2.1, o1.2.2.2.2.2.2.2.2.2.2.2.2.2.2.2.2.2.2.2.2.2.2.2.2.2.2)) else (some ((-6), o1.2.1, o1.2.2.1, o1.2.2.2.1, o1.2.2.2.2.1, o1.2.2.2.2.2.1, o1.2.2.2.2.2.2.1, o1.2.2.2.2.2.2.2.1, o1.2.2.2.2.2.2.2.2.1, o1.2.2.2.2.2.2.2.2.2.1, o1.2.2.2.2.2.2.2.2.2.2.1, o1.2.2.2.2.2.2.2.2.2.2.2.1, o1.2.2.2.2.2.2.2.2.2.2.2.2.1, o1.2.2.2.2.2.2.2.2.2.2.2.2.2.1, o1.2.2.2.2.2.2.2.2.2.2.2.2.2.2.1, o1.2.2.2.2.2.2.2.2.2.2.2.2.2.2.2.1, o1.2.2.2.2.2.2.2.2.2.2.2.2.2.2.2.2.1, o1.2.2.2.2.2.2.2.2.2.2.2.2.2.2.2.2.2.1, o1.2.2.2.2.2.2.2.2.2.2.2.2.2.2.2.2.2.2.1, o1.2.2.2.2.2.2.2.2.2.2.2.2.2.2.2.2.2.2.2.1, o1.2.2.2.2.2.2.2.2.2.2.2.2.2.2.2.2.2.2.2.2.1, o1.2.2.2.2.2.2.2.2.2.2.2.2.2.2.2.2.2.2.2.2.2.1, o1.2.2.2.2.2.2.2.2.2.2.2.2.2.2.2.2.2.2.2.2.2.2.1, o1.2.2.2.2.2.2.2.2.2.2.2.2.2.2.2.2.2.2.2.2.2.2.2.1, o1.2.2.2.2.2.2.2.2.2.2.2.2.2.2.2.2.2.2.2.2.2.2.2.2.1, o1.2.2.2.2.2.2.2.2.2.2.2.2.2.2.2.2.2.2.2.2.2.2.2.2.2.1, o1.2.2.2.2.2.2.2.2.2.2.2.2.2.2.2.2.2.2.2.2.2.2.2.2.2.2)))
theorem inX4_fault_X1 : ∀ w ∈ wsX10, w ∈ wsX4_fault := fun w h => List.mem_cons_of_mem _ (List.mem_append_left _ (List.mem_append_left _ (List.mem_append_left _ (List.mem_append_right _ h))))
theorem inX4_fault_X4 : ∀ w ∈ wsX40, w ∈ wsX4_fault := fun w h => List.mem_cons_of_mem _ (List.mem_append_left _ (List.mem_append_left _ (List.mem_append_left _ (List.mem_append_left _ (List.mem_append_right _ h)))))
theorem yd_X4_fault : yX4_fault.cls ≠ "java/lang/invoke/MethodHandle" ∧ yX4_fault.cls ≠ "java/lang/invoke/VarHandle" ∧ (parseMethodDescriptor yX4_fault.desc).map (fun d => d.parameters.length) = some 0 := by decide +kernel
abbrev rmX4_fault : Room := { frames := 6, cells := 0, slots := 0, locals := 138 }
set_option maxHeartbeats 4000000 in
set_option maxRecDepth 100000 in
theorem k_X4_fault (l : Launch) (D : va_G) (K : Nat → ClassId) (ax : Nat) (ad : Nat) (ar : Nat) (aw : Nat) (qd : Nat → Nat) (aig : Nat) (q : Nat → Nat) (zyearShop : Nat) (zimages : Nat) (zmeans : Nat) (vsgc : Int32) (vdyfp : Int32) (vdyac : Int32) (vdyba : Int32) (vdywy : Int32) (vdyse : Int32) (vdysp : Int32) (vdyhe : Int32) (vdyhw : Int32) (vrdaw : Int32) (vrdac : Int32) (vrdsp : Int32) (vrdwo : Int32) (vrdot : Int32) (vrwst : Int32) (vrwln : Int32) (vwd : Nat → Int32) (vkd : Nat → Int32) (vrd : Nat → Int32) (vpd : Nat → Int32) (vbd : Nat → Int32) (vid : Nat → Int32) (vwcd : Int32) (vld : Nat → Int32) (vgd : Nat → Int32) (vod : Nat → Int32) (vscd : Int32) (vfg : Nat → Int32) (vw : Nat → Int32) (vk : Nat → Int32) (vr : Nat → Int32) (vp : Nat → Int32) (vb : Nat → Int32) (vi : Nat → Int32) (vwc : Int32) (vl : Nat → Int32) (vg : Nat → Int32) (vo : Nat → Int32) (vsc : Int32) (out : Int32 × Int32 × Int32 × Int32 × Int32 × Int32 × Int32 × Int32 × Int32 × Int32 × Int32 × Int32 × Int32 × Int32 × Int32 × Int32 × (Nat → Int32) × (Nat → Int32) × (Nat → Int32) × (Nat → Int32) × (Nat → Int32) × (Nat → Int32) × Int32 × (Nat → Int32) × (Nat → Int32) × (Nat → Int32) × Int32) (hf : f_X4_fault vsgc vdyfp vdyba vrdac vrdsp vrdwo vrdot vwd vkd vrd vpd vbd vid vld vgd vod vfg vw vk vr vp vb vi vwc vl vg vo vsc = some out) : kI l D K .int yX4_fault wsX4_fault rmX4_fault [.ref ax] ((xoW ax (q 0) zyearShop zimages aig ad zmeans vsgc) ++ (dyW ad (qd 0) ar aw vdyfp vdyac vdyba vdywy vdyse vdysp vdyhe vdyhw) ++ (rdW ar vrdaw vrdac vrdsp vrdwo vrdot) ++ (rwW aw vrwst vrwln) ++ (shW K qd vwd vkd vrd vpd vbd vid vwcd vld vgd vod vscd) ++ (iaW K aig 60 vfg) ++ (shW K q vw vk vr vp vb vi vwc vl vg vo vsc)) out.1 ((xoW ax (q 0) zyearShop zimages aig ad zmeans vsgc) ++ (dyW ad (qd 0) ar aw out.2.1 out.2.2.1 out.2.2.2.1 out.2.2.2.2.1 out.2.2.2.2.2.1 out.2.2.2.2.2.2.1 out.2.2.2.2.2.2.2.1 out.2.2.2.2.2.2.2.2.1) ++ (rdW ar out.2.2.2.2.2.2.2.2.2.1 out.2.2.2.2.2.2.2.2.2.2.1 out.2.2.2.2.2.2.2.2.2.2.2.1 out.2.2.2.2.2.2.2.2.2.2.2.2.1 out.2.2.2.2.2.2.2.2.2.2.2.2.2.1) ++ (rwW aw out.2.2.2.2.2.2.2.2.2.2.2.2.2.2.1 out.2.2.2.2.2.2.2.2.2.2.2.2.2.2.2.1) ++ (shW K qd out.2.2.2.2.2.2.2.2.2.2.2.2.2.2.2.2.1 out.2.2.2.2.2.2.2.2.2.2.2.2.2.2.2.2.2.1 out.2.2.2.2.2.2.2.2.2.2.2.2.2.2.2.2.2.2.1 out.2.2.2.2.2.2.2.2.2.2.2.2.2.2.2.2.2.2.2.1 out.2.2.2.2.2.2.2.2.2.2.2.2.2.2.2.2.2.2.2.2.1 out.2.2.2.2.2.2.2.2.2.2.2.2.2.2.2.2.2.2.2.2.2.1 out.2.2.2.2.2.2.2.2.2.2.2.2.2.2.2.2.2.2.2.2.2.2.1 out.2.2.2.2.2.2.2.2.2.2.2.2.2.2.2.2.2.2.2.2.2.2.2.1 out.2.2.2.2.2.2.2.2.2.2.2.2.2.2.2.2.2.2.2.2.2.2.2.2.1 out.2.2.2.2.2.2.2.2.2.2.2.2.2.2.2.2.2.2.2.2.2.2.2.2.2.1 out.2.2.2.2.2.2.2.2.2.2.2.2.2.2.2.2.2.2.2.2.2.2.2.2.2.2) ++ (iaW K aig 60 vfg) ++ (shW K q vw vk vr vp vb vi vwc vl vg vo vsc)) := by
  refine kI.of (cc := cX4_fault) (maxL := 1) (by decide) rfl (Nat.le_of_ble_eq_true rfl) ?_
  intro p e s m args below meth c A H0 Q ls hx hb hml hown hts hK hN hA hP hD hS hl hret
  have hown : s.vm.findClass RX4 = some m.cls := hown
  have hl : lv_has ls 1 [(0, .ref ax)] := hl
  generalize hH : H0 = H at hP ⊢
  have hS : va_S A H0 H [] := by rw [← hH]; exact hS
  clear hH
  unfold f_X4_fault at hf
  refine lv_aload_n hx hb dX4_fault_0 rfl (lv_at hl 0 rfl) ?_
  refine va_get (D := D) (ci := 4) (v := .ref ad) (C := RX4) (T := TX4) (N := 7) hx hb hts inX4_fault_X4 hown hK hP 0 rfl rfl 5 (by decide) (hts (.fieldLink RX4 34 "WordScales" "days" "LWordScales$Days;") (List.mem_of_getElem? (i := 1) rfl)) (fun _ h9 => h9) rfl dX4_fault_1 ?_
  refine lv_aload_n hx hb dX4_fault_4 rfl (lv_at hl 0 rfl) ?_
  refine va_get (D := D) (ci := 4) (v := .ref aig) (C := RX4) (T := TX4) (N := 7) hx hb hts inX4_fault_X4 hown hK hP 0 rfl rfl 3 (by decide) (hts (.fieldLink RX4 23 "WordScales" "signs" "[I") (List.mem_of_getElem? (i := 2) rfl)) (fun _ h9 => h9) rfl dX4_fault_5 ?_
  refine lv_aload_n hx hb dX4_fault_8 rfl (lv_at hl 0 rfl) ?_
  refine va_get (D := D) (ci := 4) (v := .int vsgc) (C := RX4) (T := TX4) (N := 7) hx hb hts inX4_fault_X4 hown hK hP 0 rfl rfl 4 (by decide) (hts (.fieldLink RX4 27 "WordScales" "signCount" "I") (List.mem_of_getElem? (i := 3) rfl)) (fun _ h9 => h9) rfl dX4_fault_9 ?_
  refine lv_aload_n hx hb dX4_fault_12 rfl (lv_at hl 0 rfl) ?_
  refine va_get (D := D) (ci := 4) (v := .ref (q 0)) (C := RX4) (T := TX4) (N := 7) hx hb hts inX4_fault_X4 hown hK hP 0 rfl rfl 0 (by decide) (hts (.fieldLink RX4 10 "WordScales" "shop" "LWordScales$Shop;") (List.mem_of_getElem? (i := 4) rfl)) (fun _ h9 => h9) rfl dX4_fault_13 ?_
  obtain ⟨o1, ho1, hf⟩ := ob_el hf
  have hPc : va_P D vwCl ((dyW ad (qd 0) ar aw vdyfp vdyac vdyba vdywy vdyse vdysp vdyhe vdyhw) ++ (rdW ar vrdaw vrdac vrdsp vrdwo vrdot) ++ (rwW aw vrwst vrwln) ++ (shW K qd vwd vkd vrd vpd vbd vid vwcd vld vgd vod vscd) ++ (iaW K aig 60 vfg) ++ (shW K q vw vk vr vp vb vi vwc vl vg vo vsc)) H := hP.sub [1, 2, 3, 4, 5, 6, 7, 8, 9, 10, 11, 12, 13, 14, 15, 16, 17, 18, 19, 20, 21, 22, 23, 24] rfl
  have hDc : va_D A ((dyW ad (qd 0) ar aw vdyfp vdyac vdyba vdywy vdyse vdysp vdyhe vdyhw) ++ (rdW ar vrdaw vrdac vrdsp vrdwo vrdot) ++ (rwW aw vrwst vrwln) ++ (shW K qd vwd vkd vrd vpd vbd vid vwcd vld vgd vod vscd) ++ (iaW K aig 60 vfg) ++ (shW K q vw vk vr vp vb vi vwc vl vg vo vsc)) := hD.sub [1, 2, 3, 4, 5, 6, 7, 8, 9, 10, 11, 12, 13, 14, 15, 16, 17, 18, 19, 20, 21, 22, 23, 24] (by decide) rfl
  refine kcg_i (D := D) (wc := ((dyW ad (qd 0) ar aw vdyfp vdyac vdyba vdywy vdyse vdysp vdyhe vdyhw) ++ (rdW ar vrdaw vrdac vrdsp vrdwo vrdot) ++ (rwW aw vrwst vrwln) ++ (shW K qd vwd vkd vrd vpd vbd vid vwcd vld vgd vod vscd) ++ (iaW K aig 60 vfg) ++ (shW K q vw vk vr vp vb vi vwc vl vg vo vsc))) (wc' := ((dyW ad (qd 0) ar aw o1.2.1 o1.2.2.1 o1.2.2.2.1 o1.2.2.2.2.1 o1.2.2.2.2.2.1 o1.2.2.2.2.2.2.1 o1.2.2.2.2.2.2.2.1 o1.2.2.2.2.2.2.2.2.1) ++ (rdW ar o1.2.2.2.2.2.2.2.2.2.1 o1.2.2.2.2.2.2.2.2.2.2.1 o1.2.2.2.2.2.2.2.2.2.2.2.1 o1.2.2.2.2.2.2.2.2.2.2.2.2.1 o1.2.2.2.2.2.2.2.2.2.2.2.2.2.1) ++ (rwW aw o1.2.2.2.2.2.2.2.2.2.2.2.2.2.2.1 o1.2.2.2.2.2.2.2.2.2.2.2.2.2.2.2.1) ++ (shW K qd o1.2.2.2.2.2.2.2.2.2.2.2.2.2.2.2.2.1 o1.2.2.2.2.2.2.2.2.2.2.2.2.2.2.2.2.2.1 o1.2.2.2.2.2.2.2.2.2.2.2.2.2.2.2.2.2.2.1 o1.2.2.2.2.2.2.2.2.2.2.2.2.2.2.2.2.2.2.2.1 o1.2.2.2.2.2.2.2.2.2.2.2.2.2.2.2.2.2.2.2.2.1 o1.2.2.2.2.2.2.2.2.2.2.2.2.2.2.2.2.2.2.2.2.2.1 o1.2.2.2.2.2.2.2.2.2.2.2.2.2.2.2.2.2.2.2.2.2.2.1 o1.2.2.2.2.2.2.2.2.2.2.2.2.2.2.2.2.2.2.2.2.2.2.2.1 o1.2.2.2.2.2.2.2.2.2.2.2.2.2.2.2.2.2.2.2.2.2.2.2.2.1 o1.2.2.2.2.2.2.2.2.2.2.2.2.2.2.2.2.2.2.2.2.2.2.2.2.2.1 o1.2.2.2.2.2.2.2.2.2.2.2.2.2.2.2.2.2.2.2.2.2.2.2.2.2.2) ++ (iaW K aig 60 vfg) ++ (shW K q vw vk vr vp vb vi vwc vl vg vo vsc))) (wr := [0].filterMap (fun i => (((xoW ax (q 0) zyearShop zimages aig ad zmeans vsgc) ++ (dyW ad (qd 0) ar aw vdyfp vdyac vdyba vdywy vdyse vdysp vdyhe vdyhw) ++ (rdW ar vrdaw vrdac vrdsp vrdwo vrdot) ++ (rwW aw vrwst vrwln) ++ (shW K qd vwd vkd vrd vpd vbd vid vwcd vld vgd vod vscd) ++ (iaW K aig 60 vfg) ++ (shW K q vw vk vr vp vb vi vwc vl vg vo vsc)) : va_W)[i]?)) (ws2 := ((xoW ax (q 0) zyearShop zimages aig ad zmeans vsgc) ++ (dyW ad (qd 0) ar aw o1.2.1 o1.2.2.1 o1.2.2.2.1 o1.2.2.2.2.1 o1.2.2.2.2.2.1 o1.2.2.2.2.2.2.1 o1.2.2.2.2.2.2.2.1 o1.2.2.2.2.2.2.2.2.1) ++ (rdW ar o1.2.2.2.2.2.2.2.2.2.1 o1.2.2.2.2.2.2.2.2.2.2.1 o1.2.2.2.2.2.2.2.2.2.2.2.1 o1.2.2.2.2.2.2.2.2.2.2.2.2.1 o1.2.2.2.2.2.2.2.2.2.2.2.2.2.1) ++ (rwW aw o1.2.2.2.2.2.2.2.2.2.2.2.2.2.2.1 o1.2.2.2.2.2.2.2.2.2.2.2.2.2.2.2.1) ++ (shW K qd o1.2.2.2.2.2.2.2.2.2.2.2.2.2.2.2.2.1 o1.2.2.2.2.2.2.2.2.2.2.2.2.2.2.2.2.2.1 o1.2.2.2.2.2.2.2.2.2.2.2.2.2.2.2.2.2.2.1 o1.2.2.2.2.2.2.2.2.2.2.2.2.2.2.2.2.2.2.2.1 o1.2.2.2.2.2.2.2.2.2.2.2.2.2.2.2.2.2.2.2.2.1 o1.2.2.2.2.2.2.2.2.2.2.2.2.2.2.2.2.2.2.2.2.2.1 o1.2.2.2.2.2.2.2.2.2.2.2.2.2.2.2.2.2.2.2.2.2.2.1 o1.2.2.2.2.2.2.2.2.2.2.2.2.2.2.2.2.2.2.2.2.2.2.2.1 o1.2.2.2.2.2.2.2.2.2.2.2.2.2.2.2.2.2.2.2.2.2.2.2.2.1 o1.2.2.2.2.2.2.2.2.2.2.2.2.2.2.2.2.2.2.2.2.2.2.2.2.2.1 o1.2.2.2.2.2.2.2.2.2.2.2.2.2.2.2.2.2.2.2.2.2.2.2.2.2.2) ++ (iaW K aig 60 vfg) ++ (shW K q vw vk vr vp vb vi vwc vl vg vo vsc))) (va_runVN (As := [.ref aig, .int vsgc, .ref (q 0)]) (rest := []) ⟨hx, hb, hml, hown, hts⟩ ((k_X1_readAll l D K ad ar aw qd aig q vdyfp vdyac vdyba vdywy vdyse vdysp vdyhe vdyhw vrdaw vrdac vrdsp vrdwo vrdot vrwst vrwln vwd vkd vrd vpd vbd vid vwcd vld vgd vod vscd vfg vw vk vr vp vb vi vwc vl vg vo vsc vsgc o1 ho1) H.size) ⟨va_cnB 3 hts gX4_fault_X1_readAll_n85 rfl rfl rfl (hN _ (List.mem_of_getElem? (i := 36) rfl)) (hts (.initialized RX1) (List.mem_of_getElem? (i := 6) rfl)) yd_X1_readAll ⟨Nat.le_of_ble_eq_true rfl, Nat.le_of_ble_eq_true rfl⟩, (hts (.instanceMethod yX1_readAll) (List.mem_of_getElem? (i := 5) rfl)), (hts (.selects RX1 yX1_readAll yX1_readAll) (List.mem_of_getElem? (i := 7) rfl))⟩ (kPreV (ci := 1) (q0 := 1) hP rfl rfl hPc hDc hK hN) rfl rfl hl.1 rfl (lv_room (Nat.le_of_ble_eq_true rfl)) dX4_fault_16 ⟨Nat.le_of_ble_eq_true rfl, Nat.le_of_ble_eq_true rfl⟩) hP hD hS hA [1, 2, 3, 4, 5, 6, 7, 8, 9, 10, 11, 12, 13, 14, 15, 16, 17, 18, 19, 20, 21, 22, 23, 24] [0] [0, 1, 2, 3, 4, 5, 6, 7, 8, 9, 10, 11, 12, 13, 14, 15, 16, 17, 18, 19, 20, 21, 22, 23, 24] rfl rfl (by decide) (by decide) rfl (by decide) (fun hzo1 H locs hP hD hS => ?_)
  refine lv_bipush (v := (-5)) hx hb dX4_fault_19 (by decide) ?_
  refine lv_icmp_ne (tgt := 34) hx hb dX4_fault_21 (by decide) (fun c2 => ?_) (fun c2 => ?_)
  · rw [if_neg c2] at hf
    refine lv_bipush (v := (-6)) hx hb dX4_fault_34 (by decide) ?_
    obtain rfl := Option.some.inj hf
    exact hret rfl rfl rfl hP hD hS dX4_fault_36
  · rw [if_pos c2] at hf
    refine lv_aload_n hx hb dX4_fault_24 rfl (lv_at hl 0 rfl) ?_
    refine va_get (D := D) (ci := 4) (v := .ref ad) (C := RX4) (T := TX4) (N := 7) hx hb hts inX4_fault_X4 hown hK hP 0 rfl rfl 5 (by decide) (hts (.fieldLink RX4 34 "WordScales" "days" "LWordScales$Days;") (List.mem_of_getElem? (i := 1) rfl)) (fun _ h9 => h9) rfl dX4_fault_25 ?_
    refine va_getN (D := D) (host := "WordScales") (ci := 1) (v := .int o1.2.1) (C := RX1) (T := TX1) (N := 11) hx hb hts inX4_fault_X1 hown hK hP 1 rfl rfl 3 (by decide) (va_Nw.use rfl (hN _ (List.mem_of_getElem? (i := 20) rfl))) (fun _ h9 => h9) rfl dX4_fault_28 ?_
    refine lv_goto (tgt := 36) hx hb dX4_fault_31 (by decide) ?_
    obtain rfl := Option.some.inj hf
    exact hret rfl rfl rfl hP hD hS dX4_fault_36
def f_X4_judge (vsgc : Int32) (vdyfp : Int32) (vdyac : Int32) (vdyba : Int32) (vdywy : Int32) (vdyse : Int32) (vdysp : Int32) (vdyhe : Int32) (vdyhw : Int32) (vrdaw : Int32) (vrdac : Int32) (vrdsp : Int32) (vrdwo : Int32) (vrdot : Int32) (vrwst : Int32) (vrwln : Int32) (vwd : Nat → Int32) (vkd : Nat → Int32) (vrd : Nat → Int32) (vpd : Nat → Int32) (vbd : Nat → Int32) (vid : Nat → Int32) (vwcd : Int32) (vld : Nat → Int32) (vgd : Nat → Int32) (vod : Nat → Int32) (vscd : Int32) (vfg : Nat → Int32) (vw : Nat → Int32) (vk : Nat → Int32) (vr : Nat → Int32) (vp : Nat → Int32) (vb : Nat → Int32) (vi : Nat → Int32) (vwc : Int32) (vl : Nat → Int32) (vg : Nat → Int32) (vo : Nat → Int32) (vsc : Int32) (p0 : Int32) : Option (Int32 × Int32 × Int32 × Int32 × Int32 × Int32 × Int32 × Int32 × Int32 × Int32 × Int32 × Int32 × Int32 × Int32 × Int32 × Int32 × (Nat → Int32) × (Nat → Int32) × (Nat → Int32) × (Nat → Int32) × (Nat → Int32) × (Nat → Int32) × Int32 × (Nat → Int32) × (Nat → Int32) × (Nat → Int32) × Int32) := bd (f_X4_isWithin p0 (0) (2)) (fun o1 => if o1 = 0 then (some ((-2), vdyfp, vdyac, vdyba, vdywy, vdyse, vdysp, vdyhe, vdyhw, vrdaw, vrdac, vrdsp, vrdwo, vrdot, vrwst, vrwln, vwd, vkd, vrd, vpd, vbd, vid, vwcd, vld, vgd, vod, vscd)) else (ob (f_X1_readAll vdyfp vdyba vrdac vrdsp vrdwo vrdot vwd vkd vrd vpd vbd vid vld vgd vod vfg vw vk vr vp vb vi vwc vl vg vo vsc vsgc) (fun o3 => if o3.1 = (-5) then (some ((-5), o3.2.1, o3.2.2.1, o3.2.2.2.1, o3.2.2.2.2.1, o3.2.2.2.2.2.1, o3.2.2.2.2.2.2.1, o3.2.2.2.2.2.2.2.1, o3.2.2.2.2.2.2.2.2.1, o3.2.2.2.2.2.2.2.2.2.1, o3.2.2.2.2.2.2.2.2.2.2.1, o3.2.2.2.2.2.2.2.2.2.2.2.1, o3.2.2.2.2.2.2.2.2.2.2.2.2.1, o3.2.2.2.2.2.2.2.2.2.2.2.2.2.1, o3.2.2.2.2.2.2.2.2.2.2.2.2.2.2.1, o3.2.2.2.2.2.2.2.2.2.2.2.2.2.2.2.1, o3.2.2.2.2.2.2.2.2.2.2.2.2.2.2.2.2.1, o3.2.2.2.2.2.2.2.2.2.2.2.2.2.2.2.2.2.1, o3.2.2.2.2.2.2.2.2.2.2.2.2.2.2.2.2.2.2.1, o3.2.2.2.2.2.2.2.2.2.2.2.2.2.2.2.2.2.2.2.1, o3.2.2.2.2.2.2.2.2.2.2.2.2.2.2.2.2.2.2.2.2.1, o3.2.2.2.2.2.2.2.2.2.2.2.2.2.2.2.2.2.2.2.2.2.1, o3.2.2.2.2.2.2.2.2.2.2.2.2.2.2.2.2.2.2.2.2.2.2.1, o3.2.2.2.2.2.2.2.2.2.2.2.2.2.2.2.2.2.2.2.2.2.2.2.1, o3.2.2.2.2.2.2.2.2.2.2.2.2.2.2.2.2.2.2.2.2.2.2.2.2.1, o3.2.2.2.2.2.2.2.2.2.2.2.2.2.2.2.2.2.2.2.2.2.2.2.2.2.1, o3.2.2.2.2.2.2.2.2.2.2.2.2.2.2.2.2.2.2.2.2.2.2.2.2.2.2)) else (if p0 = 2 then (if o3.1 = 0 then (some (o3.2.2.2.2.2.1, o3.2.1, o3.2.2.1, o3.2.2.2.1, o3.2.2.2.2.1, o3.2.2.2.2.2.1, o3.2.2.2.2.2.2.1, o3.2.2.2.2.2.2.2.1, o3.2.2.2.2.2.2.2.2.1, o3.2.2.2.2.2.2.2.2.2.1, o3.2.2.2.2.2.2.2.2.2.2.1, o3.2.2.2.2.2.2.2.2.2.2.2.1, o3.2.2.2.2.2.2.2.2.2.2.2.2.1, o3.2.2.2.2.2.2.2.2.2.2.2.2.2.1, o3.2.2.2.2.2.2.2.2.2.2.2.2.2.2.1, o3.2.2.2.2.2.2.2.2.2.2.2.2.2.2.2.1, o3.2.2.2.2.2.2.2.2.2.2.2.2.2.2.2.2.1, o3.2.2.2.2.2.2.2.2.2.2.2.2.2.2.2.2.2.1, o3.2.2.2.2.2.2.2.2.2.2.2.2.2.2.2.2.2.2.1, o3.2.2.2.2.2.2.2.2.2.2.2.2.2.2.2.2.2.2.2.1, o3.2.2.2.2.2.2.2.2.2.2.2.2.2.2.2.2.2.2.2.2.1, o3.2.2.2.2.2.2.2.2.2.2.2.2.2.2.2.2.2.2.2.2.2.1, o3.2.2.2.2.2.2.2.2.2.2.2.2.2.2.2.2.2.2.2.2.2.2.1, o3.2.2.2.2.2.2.2.2.2.2.2.2.2.2.2.2.2.2.2.2.2.2.2.1, o3.2.2.2.2.2.2.2.2.2.2.2.2.2.2.2.2.2.2.2.2.2.2.2.2.1, o3.2.2.2.2.2.2.2.2.2.2.2.2.2.2.2.2.2.2.2.2.2.2.2.2.2.1, o3.2.2.2.2.2.2.2.2.2.2.2.2.2.2.2.2.2.2.2.2.2.2.2.2.2.2)) else (some (o3.1, o3.2.1, o3.2.2.1, o3.2.2.2.1, o3.2.2.2.2.1, o3.2.2.2.2.2.1, o3.2.2.2.2.2.2.1, o3.2.2.2.2.2.2.2.1, o3.2.2.2.2.2.2.2.2.1, o3.2.2.2.2.2.2.2.2.2.1, o3.2.2.2.2.2.2.2.2.2.2.1, o3.2.2.2.2.2.2.2.2.2.2.2.1, o3.2.2.2.2.2.2.2.2.2.2.2.2.1, o3.2.2.2.2.2.2.2.2.2.2.2.2.2.1, o3.2.2.2.2.2.2.2.2.2.2.2.2.2.2.1, o3.2.2.2.2.2.2.2.2.2.2.2.2.2.2.2.1, o3.2.2.2.2.2.2.2.2.2.2.2.2.2.2.2.2.1, o3.2.2.2.2.2.2.2.2.2.2.2.2.2.2.2.2.2.1, o3.2.2.2.2.2.2.2.2.2.2.2.2.2.2.2.2.2.2.1, o3.2.2.2.2.2.2.2.2.2.2.2.2.2.2.2.2.2.2.2.1, o3.2.2.2.2.2.2.2.2.2.2.2.2.2.2.2.2.2.2.2.2.1, o3.2.2.2.2.2.2.2.2.2.2.2.2.2.2.2.2.2.2.2.2.2.1, o3.2.2.2.2.2.2.2.2.2.2.2.2.2.2.2.2.2.2.2.2.2.2.1, o3.2.2.2.2.2.2.2.2.2.2.2.2.2.2.2.2.2.2.2.2.2.2.2.1, o3.2.2.2.2.2.2.2.2.2.2.2.2.2.2.2.2.2.2.2.2.2.2.2.2.1, o3.2.2.2.2.2.2.2.2.2.2.2.2.2.2.2.2.2.2.2.2.2.2.2.2.2.1, o3.2.2.2.2.2.2.2.2.2.2.2.2.2.2.2.2.2.2.2.2.2.2.2.2.2.2))) else (if o3.1 = 0 then (some ((-6), o3.2.1, o3.2.2.1, o3.2.2.2.1, o3.2.2.2.2.1, o3.2.2.2.2.2.1, o3.2.2.2.2.2.2.1, o3.2.2.2.2.2.2.2.1, o3.2.2.2.2.2.2.2.2.1, o3.2.2.2.2.2.2.2.2.2.1, o3.2.2.2.2.2.2.2.2.2.2.1, o3.2.2.2.2.2.2.2.2.2.2.2.1, o3.2.2.2.2.2.2.2.2.2.2.2.2.1, o3.2.2.2.2.2.2.2.2.2.2.2.2.2.1, o3.2.2.2.2.2.2.2.2.2.2.2.2.2.2.1, o3.2.2.2.2.2.2.2.2.2.2.2.2.2.2.2.1, o3.2.2.2.2.2.2.2.2.2.2.2.2.2.2.2.2.1, o3.2.2.2.2.2.2.2.2.2.2.2.2.2.2.2.2.2.1, o3.2.2.2.2.2.2.2.2.2.2.2.2.2.2.2.2.2.2.1, o3.2.2.2.2.2.2.2.2.2.2.2.2.2.2.2.2.2.2.2.1, o3.2.2.2.2.2.2.2.2.2.2.2.2.2.2.2.2.2.2.2.2.1, o3.2.2.2.2.2.2.2.2.2.2.2.2.2.2.2.2.2.2.2.2.2.1, o3.2.2.2.2.2.2.2.2.2.2.2.2.2.2.2.2.2.2.2.2.2.2.1, o3.2.2.2.2.2.2.2.2.2.2.2.2.2.2.2.2.2.2.2.2.2.2.2.1, o3.2.2.2.2.2.2.2.2.2.2.2.2.2.2.2.2.2.2.2.2.2.2.2.2.1, o3.2.2.2.2.2.2.2.2.2.2.2.2.2.2.2.2.2.2.2.2.2.2.2.2.2.1, o3.2.2.2.2.2.2.2.2.2.2.2.2.2.2.2.2.2.2.2.2.2.2.2.2.2.2)) else (if p0 = 0 then (some (o3.2.2.2.1, o3.2.1, o3.2.2.1, o3.2.2.2.1, o3.2.2.2.2.1, o3.2.2.2.2.2.1, o3.2.2.2.2.2.2.1, o3.2.2.2.2.2.2.2.1, o3.2.2.2.2.2.2.2.2.1, o3.2.2.2.2.2.2.2.2.2.1, o3.2.2.2.2.2.2.2.2.2.2.1, o3.2.2.2.2.2.2.2.2.2.2.2.1, o3.2.2.2.2.2.2.2.2.2.2.2.2.1, o3.2.2.2.2.2.2.2.2.2.2.2.2.2.1, o3.2.2.2.2.2.2.2.2.2.2.2.2.2.2.1, o3.2.2.2.2.2.2.2.2.2.2.2.2.2.2.2.1, o3.2.2.2.2.2.2.2.2.2.2.2.2.2.2.2.2.1, o3.2.2.2.2.2.2.2.2.2.2.2.2.2.2.2.2.2.1, o3.2.2.2.2.2.2.2.2.2.2.2.2.2.2.2.2.2.2.1, o3.2.2.2.2.2.2.2.2.2.2.2.2.2.2.2.2.2.2.2.1, o3.2.2.2.2.2.2.2.2.2.2.2.2.2.2.2.2.2.2.2.2.1, o3.2.2.2.2.2.2.2.2.2.2.2.2.2.2.2.2.2.2.2.2.2.1, o3.2.2.2.2.2.2.2.2.2.2.2.2.2.2.2.2.2.2.2.2.2.2.1, o3.2.2.2.2.2.2.2.2.2.2.2.2.2.2.2.2.2.2.2.2.2.2.2.1, o3.2.2.2.2.2.2.2.2.2.2.2.2.2.2.2.2.2.2.2.2.2.2.2.2.1, o3.2.2.2.2.2.2.2.2.2.2.2.2.2.2.2.2.2.2.2.2.2.2.2.2.2.1, o3.2.2.2.2.2.2.2.2.2.2.2.2.2.2.2.2.2.2.2.2.2.2.2.2.2.2)) else (some (o3.2.2.2.2.1, o3.2.1, o3.2.2.1, o3.2.2.2.1, o3.2.2.2.2.1, o3.2.2.2.2.2.1, o3.2.2.2.2.2.2.1, o3.2.2.2.2.2.2.2.1, o3.2.2.2.2.2.2.2.2.1, o3.2.2.2.2.2.2.2.2.2.1, o3.2.2.2.2.2.2.2.2.2.2.1, o3.2.2.2.2.2.2.2.2.2.2.2.1, o3.2.2.2.2.2.2.2.2.2.2.2.2.1, o3.2.2.2.2.2.2.2.2.2.2.2.2.2.1, o3.2.2.2.2.2.2.2.2.2.2.2.2.2.2.1, o3.2.2.2.2.2.2.2.2.2.2.2.2.2.2.2.1, o3.2.2.2.2.2.2.2.2.2.2.2.2.2.2.2.2.1, o3.2.2.2.2.2.2.2.2.2.2.2.2.2.2.2.2.2.1, o3.2.2.2.2.2.2.2.2.2.2.2.2.2.2.2.2.2.2.1, o3.2.2.2.2.2.2.2.2.2.2.2.2.2.2.2.2.2.2.2.1, o3.2.2.2.2.2.2.2.2.2.2.2.2.2.2.2.2.2.2.2.2.1, o3.2.2.2.2.2.2.2.2.2.2.2.2.2.2.2.2.2.2.2.2.2.1, o3.2.2.2.2.2.2.2.2.2.2.2.2.2.2.2.2.2.2.2.2.2.2.1, o3.2.2.2.2.2.2.2.2.2.2.2.2.2.2.2.2.2.2.2.2.2.2.2.1, o3.2.2.2.2.2.2.2.2.2.2.2.2.2.2.2.2.2.2.2.2.2.2.2.2.1, o3.2.2.2.2.2.2.2.2.2.2.2.2.2.2.2.2.2.2.2.2.2.2.2.2.2.1, o3.2.2.2.2.2.2.2.2.2.2.2.2.2.2.2.2.2.2.2.2.2.2.2.2.2.2))))))))
theorem inX4_judge_X1 : ∀ w ∈ wsX10, w ∈ wsX4_judge := fun w h => List.mem_cons_of_mem _ (List.mem_append_left _ (List.mem_append_left _ (List.mem_append_left _ (List.mem_append_right _ h))))
theorem inX4_judge_X4 : ∀ w ∈ wsX40, w ∈ wsX4_judge := fun w h => List.mem_cons_of_mem _ (List.mem_append_left _ (List.mem_append_left _ (List.mem_append_left _ (List.mem_append_left _ (List.mem_append_right _ h)))))
theorem yd_X4_judge : yX4_judge.cls ≠ "java/lang/invoke/MethodHandle" ∧ yX4_judge.cls ≠ "java/lang/invoke/VarHandle" ∧ (parseMethodDescriptor yX4_judge.desc).map (fun d => d.parameters.length) = some 1 := by decide +kernel
abbrev rmX4_judge : Room := { frames := 6, cells := 0, slots := 0, locals := 138 }
set_option maxHeartbeats 4000000 in
set_option maxRecDepth 100000 in
theorem k_X4_judge (l : Launch) (D : va_G) (K : Nat → ClassId) (ax : Nat) (ad : Nat) (ar : Nat) (aw : Nat) (qd : Nat → Nat) (aig : Nat) (q : Nat → Nat) (zyearShop : Nat) (zimages : Nat) (zmeans : Nat) (vsgc : Int32) (vdyfp : Int32) (vdyac : Int32) (vdyba : Int32) (vdywy : Int32) (vdyse : Int32) (vdysp : Int32) (vdyhe : Int32) (vdyhw : Int32) (vrdaw : Int32) (vrdac : Int32) (vrdsp : Int32) (vrdwo : Int32) (vrdot : Int32) (vrwst : Int32) (vrwln : Int32) (vwd : Nat → Int32) (vkd : Nat → Int32) (vrd : Nat → Int32) (vpd : Nat → Int32) (vbd : Nat → Int32) (vid : Nat → Int32) (vwcd : Int32) (vld : Nat → Int32) (vgd : Nat → Int32) (vod : Nat → Int32) (vscd : Int32) (vfg : Nat → Int32) (vw : Nat → Int32) (vk : Nat → Int32) (vr : Nat → Int32) (vp : Nat → Int32) (vb : Nat → Int32) (vi : Nat → Int32) (vwc : Int32) (vl : Nat → Int32) (vg : Nat → Int32) (vo : Nat → Int32) (vsc : Int32) (p0 : Int32) (out : Int32 × Int32 × Int32 × Int32 × Int32 × Int32 × Int32 × Int32 × Int32 × Int32 × Int32 × Int32 × Int32 × Int32 × Int32 × Int32 × (Nat → Int32) × (Nat → Int32) × (Nat → Int32) × (Nat → Int32) × (Nat → Int32) × (Nat → Int32) × Int32 × (Nat → Int32) × (Nat → Int32) × (Nat → Int32) × Int32) (hf : f_X4_judge vsgc vdyfp vdyac vdyba vdywy vdyse vdysp vdyhe vdyhw vrdaw vrdac vrdsp vrdwo vrdot vrwst vrwln vwd vkd vrd vpd vbd vid vwcd vld vgd vod vscd vfg vw vk vr vp vb vi vwc vl vg vo vsc p0 = some out) : kI l D K .int yX4_judge wsX4_judge rmX4_judge [.ref ax, .int p0] ((xoW ax (q 0) zyearShop zimages aig ad zmeans vsgc) ++ (dyW ad (qd 0) ar aw vdyfp vdyac vdyba vdywy vdyse vdysp vdyhe vdyhw) ++ (rdW ar vrdaw vrdac vrdsp vrdwo vrdot) ++ (rwW aw vrwst vrwln) ++ (shW K qd vwd vkd vrd vpd vbd vid vwcd vld vgd vod vscd) ++ (iaW K aig 60 vfg) ++ (shW K q vw vk vr vp vb vi vwc vl vg vo vsc)) out.1 ((xoW ax (q 0) zyearShop zimages aig ad zmeans vsgc) ++ (dyW ad (qd 0) ar aw out.2.1 out.2.2.1 out.2.2.2.1 out.2.2.2.2.1 out.2.2.2.2.2.1 out.2.2.2.2.2.2.1 out.2.2.2.2.2.2.2.1 out.2.2.2.2.2.2.2.2.1) ++ (rdW ar out.2.2.2.2.2.2.2.2.2.1 out.2.2.2.2.2.2.2.2.2.2.1 out.2.2.2.2.2.2.2.2.2.2.2.1 out.2.2.2.2.2.2.2.2.2.2.2.2.1 out.2.2.2.2.2.2.2.2.2.2.2.2.2.1) ++ (rwW aw out.2.2.2.2.2.2.2.2.2.2.2.2.2.2.1 out.2.2.2.2.2.2.2.2.2.2.2.2.2.2.2.1) ++ (shW K qd out.2.2.2.2.2.2.2.2.2.2.2.2.2.2.2.2.1 out.2.2.2.2.2.2.2.2.2.2.2.2.2.2.2.2.2.1 out.2.2.2.2.2.2.2.2.2.2.2.2.2.2.2.2.2.2.1 out.2.2.2.2.2.2.2.2.2.2.2.2.2.2.2.2.2.2.2.1 out.2.2.2.2.2.2.2.2.2.2.2.2.2.2.2.2.2.2.2.2.1 out.2.2.2.2.2.2.2.2.2.2.2.2.2.2.2.2.2.2.2.2.2.1 out.2.2.2.2.2.2.2.2.2.2.2.2.2.2.2.2.2.2.2.2.2.2.1 out.2.2.2.2.2.2.2.2.2.2.2.2.2.2.2.2.2.2.2.2.2.2.2.1 out.2.2.2.2.2.2.2.2.2.2.2.2.2.2.2.2.2.2.2.2.2.2.2.2.1 out.2.2.2.2.2.2.2.2.2.2.2.2.2.2.2.2.2.2.2.2.2.2.2.2.2.1 out.2.2.2.2.2.2.2.2.2.2.2.2.2.2.2.2.2.2.2.2.2.2.2.2.2.2) ++ (iaW K aig 60 vfg) ++ (shW K q vw vk vr vp vb vi vwc vl vg vo vsc)) := by
  refine kI.of (cc := cX4_judge) (maxL := 3) (by decide) rfl (Nat.le_of_ble_eq_true rfl) ?_
  intro p e s m args below meth c A H0 Q ls hx hb hml hown hts hK hN hA hP hD hS hl hret
  have hown : s.vm.findClass RX4 = some m.cls := hown
  have hl : lv_has ls 3 [(0, .ref ax), (1, .int p0)] := hl
  generalize hH : H0 = H at hP ⊢
  have hS : va_S A H0 H [] := by rw [← hH]; exact hS
  clear hH
  unfold f_X4_judge at hf
  refine lv_iload_n hx hb dX4_judge_0 rfl (lv_at hl 1 rfl) ?_
  refine lv_iconst (v := 0) hx hb dX4_judge_1 (by decide) ?_
  refine lv_iconst (v := 2) hx hb dX4_judge_2 (by decide) ?_
  obtain ⟨o1, ho1, hf⟩ := bd_el hf
  refine kc0_i (D := D) (va_runS (As := [.int p0, .int 0, .int 2]) (rest := []) ⟨hx, hb, hml, hown, hts⟩ ((k_X4_isWithin l D K p0 (0) (2) o1 ho1) H.size) (va_cwS 3 hts gX4_judge_X4_isWithin rfl rfl rfl yd_X4_isWithin ⟨Nat.le_of_ble_eq_true rfl, Nat.le_of_ble_eq_true rfl⟩) (kPreS va_P_nil (va_D_nil (A := fun _ => True)) hK hN) rfl rfl hl.1 rfl (lv_room (Nat.le_of_ble_eq_true rfl)) dX4_judge_3 ⟨Nat.le_of_ble_eq_true rfl, Nat.le_of_ble_eq_true rfl⟩) hP hS hA (fun hzo1 H locs hP hS => ?_)
  refine lv_if_ne (tgt := 12) hx hb dX4_judge_6 (by decide) (fun c2 => ?_) (fun c2 => ?_)
  · rw [if_neg c2] at hf
    refine lv_aload_n hx hb dX4_judge_12 rfl (lv_at hl 0 rfl) ?_
    refine va_get (D := D) (ci := 4) (v := .ref ad) (C := RX4) (T := TX4) (N := 7) hx hb hts inX4_judge_X4 hown hK hP 0 rfl rfl 5 (by decide) (hts (.fieldLink RX4 34 "WordScales" "days" "LWordScales$Days;") (List.mem_of_getElem? (i := 1) rfl)) (fun _ h9 => h9) rfl dX4_judge_13 ?_
    refine lv_aload_n hx hb dX4_judge_16 rfl (lv_at hl 0 rfl) ?_
    refine va_get (D := D) (ci := 4) (v := .ref aig) (C := RX4) (T := TX4) (N := 7) hx hb hts inX4_judge_X4 hown hK hP 0 rfl rfl 3 (by decide) (hts (.fieldLink RX4 23 "WordScales" "signs" "[I") (List.mem_of_getElem? (i := 2) rfl)) (fun _ h9 => h9) rfl dX4_judge_17 ?_
    refine lv_aload_n hx hb dX4_judge_20 rfl (lv_at hl 0 rfl) ?_
    refine va_get (D := D) (ci := 4) (v := .int vsgc) (C := RX4) (T := TX4) (N := 7) hx hb hts inX4_judge_X4 hown hK hP 0 rfl rfl 4 (by decide) (hts (.fieldLink RX4 27 "WordScales" "signCount" "I") (List.mem_of_getElem? (i := 3) rfl)) (fun _ h9 => h9) rfl dX4_judge_21 ?_
    refine lv_aload_n hx hb dX4_judge_24 rfl (lv_at hl 0 rfl) ?_
    refine va_get (D := D) (ci := 4) (v := .ref (q 0)) (C := RX4) (T := TX4) (N := 7) hx hb hts inX4_judge_X4 hown hK hP 0 rfl rfl 0 (by decide) (hts (.fieldLink RX4 10 "WordScales" "shop" "LWordScales$Shop;") (List.mem_of_getElem? (i := 4) rfl)) (fun _ h9 => h9) rfl dX4_judge_25 ?_
    obtain ⟨o3, ho3, hf⟩ := ob_el hf
    have hPc : va_P D vwCl ((dyW ad (qd 0) ar aw vdyfp vdyac vdyba vdywy vdyse vdysp vdyhe vdyhw) ++ (rdW ar vrdaw vrdac vrdsp vrdwo vrdot) ++ (rwW aw vrwst vrwln) ++ (shW K qd vwd vkd vrd vpd vbd vid vwcd vld vgd vod vscd) ++ (iaW K aig 60 vfg) ++ (shW K q vw vk vr vp vb vi vwc vl vg vo vsc)) H := hP.sub [1, 2, 3, 4, 5, 6, 7, 8, 9, 10, 11, 12, 13, 14, 15, 16, 17, 18, 19, 20, 21, 22, 23, 24] rfl
    have hDc : va_D A ((dyW ad (qd 0) ar aw vdyfp vdyac vdyba vdywy vdyse vdysp vdyhe vdyhw) ++ (rdW ar vrdaw vrdac vrdsp vrdwo vrdot) ++ (rwW aw vrwst vrwln) ++ (shW K qd vwd vkd vrd vpd vbd vid vwcd vld vgd vod vscd) ++ (iaW K aig 60 vfg) ++ (shW K q vw vk vr vp vb vi vwc vl vg vo vsc)) := hD.sub [1, 2, 3, 4, 5, 6, 7, 8, 9, 10, 11, 12, 13, 14, 15, 16, 17, 18, 19, 20, 21, 22, 23, 24] (by decide) rfl
    refine kcg_i (D := D) (wc := ((dyW ad (qd 0) ar aw vdyfp vdyac vdyba vdywy vdyse vdysp vdyhe vdyhw) ++ (rdW ar vrdaw vrdac vrdsp vrdwo vrdot) ++ (rwW aw vrwst vrwln) ++ (shW K qd vwd vkd vrd vpd vbd vid vwcd vld vgd vod vscd) ++ (iaW K aig 60 vfg) ++ (shW K q vw vk vr vp vb vi vwc vl vg vo vsc))) (wc' := ((dyW ad (qd 0) ar aw o3.2.1 o3.2.2.1 o3.2.2.2.1 o3.2.2.2.2.1 o3.2.2.2.2.2.1 o3.2.2.2.2.2.2.1 o3.2.2.2.2.2.2.2.1 o3.2.2.2.2.2.2.2.2.1) ++ (rdW ar o3.2.2.2.2.2.2.2.2.2.1 o3.2.2.2.2.2.2.2.2.2.2.1 o3.2.2.2.2.2.2.2.2.2.2.2.1 o3.2.2.2.2.2.2.2.2.2.2.2.2.1 o3.2.2.2.2.2.2.2.2.2.2.2.2.2.1) ++ (rwW aw o3.2.2.2.2.2.2.2.2.2.2.2.2.2.2.1 o3.2.2.2.2.2.2.2.2.2.2.2.2.2.2.2.1) ++ (shW K qd o3.2.2.2.2.2.2.2.2.2.2.2.2.2.2.2.2.1 o3.2.2.2.2.2.2.2.2.2.2.2.2.2.2.2.2.2.1 o3.2.2.2.2.2.2.2.2.2.2.2.2.2.2.2.2.2.2.1 o3.2.2.2.2.2.2.2.2.2.2.2.2.2.2.2.2.2.2.2.1 o3.2.2.2.2.2.2.2.2.2.2.2.2.2.2.2.2.2.2.2.2.1 o3.2.2.2.2.2.2.2.2.2.2.2.2.2.2.2.2.2.2.2.2.2.1 o3.2.2.2.2.2.2.2.2.2.2.2.2.2.2.2.2.2.2.2.2.2.2.1 o3.2.2.2.2.2.2.2.2.2.2.2.2.2.2.2.2.2.2.2.2.2.2.2.1 o3.2.2.2.2.2.2.2.2.2.2.2.2.2.2.2.2.2.2.2.2.2.2.2.2.1 o3.2.2.2.2.2.2.2.2.2.2.2.2.2.2.2.2.2.2.2.2.2.2.2.2.2.1 o3.2.2.2.2.2.2.2.2.2.2.2.2.2.2.2.2.2.2.2.2.2.2.2.2.2.2) ++ (iaW K aig 60 vfg) ++ (shW K q vw vk vr vp vb vi vwc vl vg vo vsc))) (wr := [0].filterMap (fun i => (((xoW ax (q 0) zyearShop zimages aig ad zmeans vsgc) ++ (dyW ad (qd 0) ar aw vdyfp vdyac vdyba vdywy vdyse vdysp vdyhe vdyhw) ++ (rdW ar vrdaw vrdac vrdsp vrdwo vrdot) ++ (rwW aw vrwst vrwln) ++ (shW K qd vwd vkd vrd vpd vbd vid vwcd vld vgd vod vscd) ++ (iaW K aig 60 vfg) ++ (shW K q vw vk vr vp vb vi vwc vl vg vo vsc)) : va_W)[i]?)) (ws2 := ((xoW ax (q 0) zyearShop zimages aig ad zmeans vsgc) ++ (dyW ad (qd 0) ar aw o3.2.1 o3.2.2.1 o3.2.2.2.1 o3.2.2.2.2.1 o3.2.2.2.2.2.1 o3.2.2.2.2.2.2.1 o3.2.2.2.2.2.2.2.1 o3.2.2.2.2.2.2.2.2.1) ++ (rdW ar o3.2.2.2.2.2.2.2.2.2.1 o3.2.2.2.2.2.2.2.2.2.2.1 o3.2.2.2.2.2.2.2.2.2.2.2.1 o3.2.2.2.2.2.2.2.2.2.2.2.2.1 o3.2.2.2.2.2.2.2.2.2.2.2.2.2.1) ++ (rwW aw o3.2.2.2.2.2.2.2.2.2.2.2.2.2.2.1 o3.2.2.2.2.2.2.2.2.2.2.2.2.2.2.2.1) ++ (shW K qd o3.2.2.2.2.2.2.2.2.2.2.2.2.2.2.2.2.1 o3.2.2.2.2.2.2.2.2.2.2.2.2.2.2.2.2.2.1 o3.2.2.2.2.2.2.2.2.2.2.2.2.2.2.2.2.2.2.1 o3.2.2.2.2.2.2.2.2.2.2.2.2.2.2.2.2.2.2.2.1 o3.2.2.2.2.2.2.2.2.2.2.2.2.2.2.2.2.2.2.2.2.1 o3.2.2.2.2.2.2.2.2.2.2.2.2.2.2.2.2.2.2.2.2.2.1 o3.2.2.2.2.2.2.2.2.2.2.2.2.2.2.2.2.2.2.2.2.2.2.1 o3.2.2.2.2.2.2.2.2.2.2.2.2.2.2.2.2.2.2.2.2.2.2.2.1 o3.2.2.2.2.2.2.2.2.2.2.2.2.2.2.2.2.2.2.2.2.2.2.2.2.1 o3.2.2.2.2.2.2.2.2.2.2.2.2.2.2.2.2.2.2.2.2.2.2.2.2.2.1 o3.2.2.2.2.2.2.2.2.2.2.2.2.2.2.2.2.2.2.2.2.2.2.2.2.2.2) ++ (iaW K aig 60 vfg) ++ (shW K q vw vk vr vp vb vi vwc vl vg vo vsc))) (va_runVN (As := [.ref aig, .int vsgc, .ref (q 0)]) (rest := []) ⟨hx, hb, hml, hown, hts⟩ ((k_X1_readAll l D K ad ar aw qd aig q vdyfp vdyac vdyba vdywy vdyse vdysp vdyhe vdyhw vrdaw vrdac vrdsp vrdwo vrdot vrwst vrwln vwd vkd vrd vpd vbd vid vwcd vld vgd vod vscd vfg vw vk vr vp vb vi vwc vl vg vo vsc vsgc o3 ho3) H.size) ⟨va_cnB 3 hts gX4_judge_X1_readAll_n85 rfl rfl rfl (hN _ (List.mem_of_getElem? (i := 36) rfl)) (hts (.initialized RX1) (List.mem_of_getElem? (i := 10) rfl)) yd_X1_readAll ⟨Nat.le_of_ble_eq_true rfl, Nat.le_of_ble_eq_true rfl⟩, (hts (.instanceMethod yX1_readAll) (List.mem_of_getElem? (i := 9) rfl)), (hts (.selects RX1 yX1_readAll yX1_readAll) (List.mem_of_getElem? (i := 11) rfl))⟩ (kPreV (ci := 1) (q0 := 1) hP rfl rfl hPc hDc hK hN) rfl rfl hl.1 rfl (lv_room (Nat.le_of_ble_eq_true rfl)) dX4_judge_28 ⟨Nat.le_of_ble_eq_true rfl, Nat.le_of_ble_eq_true rfl⟩) hP hD hS hA [1, 2, 3, 4, 5, 6, 7, 8, 9, 10, 11, 12, 13, 14, 15, 16, 17, 18, 19, 20, 21, 22, 23, 24] [0] [0, 1, 2, 3, 4, 5, 6, 7, 8, 9, 10, 11, 12, 13, 14, 15, 16, 17, 18, 19, 20, 21, 22, 23, 24] rfl rfl (by decide) (by decide) rfl (by decide) (fun hzo3 H locs hP hD hS => ?_)
    refine lv_istore_n (lv' := [(2, .int o3.1), (0, .ref ax), (1, .int p0)]) hx hb dX4_judge_31 rfl hl (by decide) rfl (fun ls hl => ?_)
    refine lv_iload_n hx hb dX4_judge_32 rfl (lv_at hl 0 rfl) ?_
    refine lv_bipush (v := (-5)) hx hb dX4_judge_33 (by decide) ?_
    refine lv_icmp_ne (tgt := 41) hx hb dX4_judge_35 (by decide) (fun c4 => ?_) (fun c4 => ?_)
    · rw [if_neg c4] at hf
      refine lv_iload_n hx hb dX4_judge_41 rfl (lv_at hl 2 rfl) ?_
      refine lv_iconst (v := 2) hx hb dX4_judge_42 (by decide) ?_
      refine lv_icmp_ne (tgt := 62) hx hb dX4_judge_43 (by decide) (fun c5 => ?_) (fun c5 => ?_)
      · rw [if_neg c5] at hf
        refine lv_iload_n hx hb dX4_judge_62 rfl (lv_at hl 0 rfl) ?_
        refine lv_if_ne (tgt := 69) hx hb dX4_judge_63 (by decide) (fun c6 => ?_) (fun c6 => ?_)
        · rw [if_neg c6] at hf
          refine lv_iload_n hx hb dX4_judge_69 rfl (lv_at hl 2 rfl) ?_
          refine lv_if_ne (tgt := 83) hx hb dX4_judge_70 (by decide) (fun c7 => ?_) (fun c7 => ?_)
          · rw [if_neg c7] at hf
            refine lv_aload_n hx hb dX4_judge_83 rfl (lv_at hl 1 rfl) ?_
            refine va_get (D := D) (ci := 4) (v := .ref ad) (C := RX4) (T := TX4) (N := 7) hx hb hts inX4_judge_X4 hown hK hP 0 rfl rfl 5 (by decide) (hts (.fieldLink RX4 34 "WordScales" "days" "LWordScales$Days;") (List.mem_of_getElem? (i := 1) rfl)) (fun _ h9 => h9) rfl dX4_judge_84 ?_
            refine va_getN (D := D) (host := "WordScales") (ci := 1) (v := .int o3.2.2.2.2.1) (C := RX1) (T := TX1) (N := 11) hx hb hts inX4_judge_X1 hown hK hP 1 rfl rfl 6 (by decide) (va_Nw.use rfl (hN _ (List.mem_of_getElem? (i := 23) rfl))) (fun _ h9 => h9) rfl dX4_judge_87 ?_
            obtain rfl := Option.some.inj hf
            exact hret rfl rfl rfl hP hD hS dX4_judge_90
          · rw [if_pos c7] at hf
            refine lv_aload_n hx hb dX4_judge_73 rfl (lv_at hl 1 rfl) ?_
            refine va_get (D := D) (ci := 4) (v := .ref ad) (C := RX4) (T := TX4) (N := 7) hx hb hts inX4_judge_X4 hown hK hP 0 rfl rfl 5 (by decide) (hts (.fieldLink RX4 34 "WordScales" "days" "LWordScales$Days;") (List.mem_of_getElem? (i := 1) rfl)) (fun _ h9 => h9) rfl dX4_judge_74 ?_
            refine va_getN (D := D) (host := "WordScales") (ci := 1) (v := .int o3.2.2.2.1) (C := RX1) (T := TX1) (N := 11) hx hb hts inX4_judge_X1 hown hK hP 1 rfl rfl 5 (by decide) (va_Nw.use rfl (hN _ (List.mem_of_getElem? (i := 22) rfl))) (fun _ h9 => h9) rfl dX4_judge_77 ?_
            refine lv_goto (tgt := 90) hx hb dX4_judge_80 (by decide) ?_
            obtain rfl := Option.some.inj hf
            exact hret rfl rfl rfl hP hD hS dX4_judge_90
        · rw [if_pos c6] at hf
          refine lv_bipush (v := (-6)) hx hb dX4_judge_66 (by decide) ?_
          obtain rfl := Option.some.inj hf
          exact hret rfl rfl rfl hP hD hS dX4_judge_68
      · rw [if_pos c5] at hf
        refine lv_iload_n hx hb dX4_judge_46 rfl (lv_at hl 0 rfl) ?_
        refine lv_if_ne (tgt := 60) hx hb dX4_judge_47 (by decide) (fun c8 => ?_) (fun c8 => ?_)
        · rw [if_neg c8] at hf
          refine lv_iload_n hx hb dX4_judge_60 rfl (lv_at hl 0 rfl) ?_
          obtain rfl := Option.some.inj hf
          exact hret rfl rfl rfl hP hD hS dX4_judge_61
        · rw [if_pos c8] at hf
          refine lv_aload_n hx hb dX4_judge_50 rfl (lv_at hl 1 rfl) ?_
          refine va_get (D := D) (ci := 4) (v := .ref ad) (C := RX4) (T := TX4) (N := 7) hx hb hts inX4_judge_X4 hown hK hP 0 rfl rfl 5 (by decide) (hts (.fieldLink RX4 34 "WordScales" "days" "LWordScales$Days;") (List.mem_of_getElem? (i := 1) rfl)) (fun _ h9 => h9) rfl dX4_judge_51 ?_
          refine va_getN (D := D) (host := "WordScales") (ci := 1) (v := .int o3.2.2.2.2.2.1) (C := RX1) (T := TX1) (N := 11) hx hb hts inX4_judge_X1 hown hK hP 1 rfl rfl 7 (by decide) (va_Nw.use rfl (hN _ (List.mem_of_getElem? (i := 24) rfl))) (fun _ h9 => h9) rfl dX4_judge_54 ?_
          refine lv_goto (tgt := 61) hx hb dX4_judge_57 (by decide) ?_
          obtain rfl := Option.some.inj hf
          exact hret rfl rfl rfl hP hD hS dX4_judge_61
    · rw [if_pos c4] at hf
      refine lv_bipush (v := (-5)) hx hb dX4_judge_38 (by decide) ?_
      obtain rfl := Option.some.inj hf
      exact hret rfl rfl rfl hP hD hS dX4_judge_40
  · rw [if_pos c2] at hf
    refine lv_bipush (v := (-2)) hx hb dX4_judge_9 (by decide) ?_
    obtain rfl := Option.some.inj hf
    exact hret rfl rfl rfl hP hD hS dX4_judge_11
def f_X4_behind (vsgc : Int32) (vdyfp : Int32) (vdyac : Int32) (vdyba : Int32) (vdywy : Int32) (vdyse : Int32) (vdysp : Int32) (vdyhe : Int32) (vdyhw : Int32) (vrdaw : Int32) (vrdac : Int32) (vrdsp : Int32) (vrdwo : Int32) (vrdot : Int32) (vrwst : Int32) (vrwln : Int32) (vwd : Nat → Int32) (vkd : Nat → Int32) (vrd : Nat → Int32) (vpd : Nat → Int32) (vbd : Nat → Int32) (vid : Nat → Int32) (vwcd : Int32) (vld : Nat → Int32) (vgd : Nat → Int32) (vod : Nat → Int32) (vscd : Int32) (vfg : Nat → Int32) (vw : Nat → Int32) (vk : Nat → Int32) (vr : Nat → Int32) (vp : Nat → Int32) (vb : Nat → Int32) (vi : Nat → Int32) (vwc : Int32) (vl : Nat → Int32) (vg : Nat → Int32) (vo : Nat → Int32) (vsc : Int32) (p0 : Int32) (p1 : Int32) : Option (Int32 × Int32 × Int32 × Int32 × Int32 × Int32 × Int32 × Int32 × Int32 × Int32 × Int32 × Int32 × Int32 × Int32 × Int32 × Int32 × (Nat → Int32) × (Nat → Int32) × (Nat → Int32) × (Nat → Int32) × (Nat → Int32) × (Nat → Int32) × Int32 × (Nat → Int32) × (Nat → Int32) × (Nat → Int32) × Int32) := bd (f_X4_isSpeaker p0) (fun o1 => if o1 = 0 then (some ((-1), vdyfp, vdyac, vdyba, vdywy, vdyse, vdysp, vdyhe, vdyhw, vrdaw, vrdac, vrdsp, vrdwo, vrdot, vrwst, vrwln, vwd, vkd, vrd, vpd, vbd, vid, vwcd, vld, vgd, vod, vscd)) else (bd (f_X4_isWithin p1 (0) (1)) (fun o3 => if o3 = 0 then (some ((-2), vdyfp, vdyac, vdyba, vdywy, vdyse, vdysp, vdyhe, vdyhw, vrdaw, vrdac, vrdsp, vrdwo, vrdot, vrwst, vrwln, vwd, vkd, vrd, vpd, vbd, vid, vwcd, vld, vgd, vod, vscd)) else (ob (f_X1_readAll vdyfp vdyba vrdac vrdsp vrdwo vrdot vwd vkd vrd vpd vbd vid vld vgd vod vfg vw vk vr vp vb vi vwc vl vg vo vsc vsgc) (fun o5 => if o5.1 = 0 then (if p1 = 0 then (chk p0 4 (some ((o5.2.2.2.2.2.2.2.2.2.2.2.2.2.2.2.2.2.2.2.1 (p0).toNatClampNeg), o5.2.1, o5.2.2.1, o5.2.2.2.1, o5.2.2.2.2.1, o5.2.2.2.2.2.1, o5.2.2.2.2.2.2.1, o5.2.2.2.2.2.2.2.1, o5.2.2.2.2.2.2.2.2.1, o5.2.2.2.2.2.2.2.2.2.1, o5.2.2.2.2.2.2.2.2.2.2.1, o5.2.2.2.2.2.2.2.2.2.2.2.1, o5.2.2.2.2.2.2.2.2.2.2.2.2.1, o5.2.2.2.2.2.2.2.2.2.2.2.2.2.1, o5.2.2.2.2.2.2.2.2.2.2.2.2.2.2.1, o5.2.2.2.2.2.2.2.2.2.2.2.2.2.2.2.1, o5.2.2.2.2.2.2.2.2.2.2.2.2.2.2.2.2.1, o5.2.2.2.2.2.2.2.2.2.2.2.2.2.2.2.2.2.1, o5.2.2.2.2.2.2.2.2.2.2.2.2.2.2.2.2.2.2.1, o5.2.2.2.2.2.2.2.2.2.2.2.2.2.2.2.2.2.2.2.1, o5.2.2.2.2.2.2.2.2.2.2.2.2.2.2.2.2.2.2.2.2.1, o5.2.2.2.2.2.2.2.2.2.2.2.2.2.2.2.2.2.2.2.2.2.1, o5.2.2.2.2.2.2.2.2.2.2.2.2.2.2.2.2.2.2.2.2.2.2.1, o5.2.2.2.2.2.2.2.2.2.2.2.2.2.2.2.2.2.2.2.2.2.2.2.1, o5.2.2.2.2.2.2.2.2.2.2.2.2.2.2.2.2.2.2.2.2.2.2.2.2.1, o5.2.2.2.2.2.2.2.2.2.2.2.2.2.2.2.2.2.2.2.2.2.2.2.2.2.1, o5.2.2.2.2.2.2.2.2.2.2.2.2.2.2.2.2.2.2.2.2.2.2.2.2.2.2))) else (chk p0 4 (some ((o5.2.2.2.2.2.2.2.2.2.2.2.2.2.2.2.2.2.2.2.2.1 (p0).toNatClampNeg), o5.2.1, o5.2.2.1, o5.2.2.2.1, o5.2.2.2.2.1, o5.2.2.2.2.2.1, o5.2.2.2.2.2.2.1, o5.2.2.2.2.2.2.2.1, o5.2.2.2.2.2.2.2.2.1, o5.2.2.2.2.2.2.2.2.2.1, o5.2.2.2.2.2.2.2.2.2.2.1, o5.2.2.2.2.2.2.2.2.2.2.2.1, o5.2.2.2.2.2.2.2.2.2.2.2.2.1, o5.2.2.2.2.2.2.2.2.2.2.2.2.2.1, o5.2.2.2.2.2.2.2.2.2.2.2.2.2.2.1, o5.2.2.2.2.2.2.2.2.2.2.2.2.2.2.2.1, o5.2.2.2.2.2.2.2.2.2.2.2.2.2.2.2.2.1, o5.2.2.2.2.2.2.2.2.2.2.2.2.2.2.2.2.2.1, o5.2.2.2.2.2.2.2.2.2.2.2.2.2.2.2.2.2.2.1, o5.2.2.2.2.2.2.2.2.2.2.2.2.2.2.2.2.2.2.2.1, o5.2.2.2.2.2.2.2.2.2.2.2.2.2.2.2.2.2.2.2.2.1, o5.2.2.2.2.2.2.2.2.2.2.2.2.2.2.2.2.2.2.2.2.2.1, o5.2.2.2.2.2.2.2.2.2.2.2.2.2.2.2.2.2.2.2.2.2.2.1, o5.2.2.2.2.2.2.2.2.2.2.2.2.2.2.2.2.2.2.2.2.2.2.2.1, o5.2.2.2.2.2.2.2.2.2.2.2.2.2.2.2.2.2.2.2.2.2.2.2.2.1, o5.2.2.2.2.2.2.2.2.2.2.2.2.2.2.2.2.2.2.2.2.2.2.2.2.2.1, o5.2.2.2.2.2.2.2.2.2.2.2.2.2.2.2.2.2.2.2.2.2.2.2.2.2.2)))) else (some (o5.1, o5.2.1, o5.2.2.1, o5.2.2.2.1, o5.2.2.2.2.1, o5.2.2.2.2.2.1, o5.2.2.2.2.2.2.1, o5.2.2.2.2.2.2.2.1, o5.2.2.2.2.2.2.2.2.1, o5.2.2.2.2.2.2.2.2.2.1, o5.2.2.2.2.2.2.2.2.2.2.1, o5.2.2.2.2.2.2.2.2.2.2.2.1, o5.2.2.2.2.2.2.2.2.2.2.2.2.1, o5.2.2.2.2.2.2.2.2.2.2.2.2.2.1, o5.2.2.2.2.2.2.2.2.2.2.2.2.2.2.1, o5.2.2.2.2.2.2.2.2.2.2.2.2.2.2.2.1, o5.2.2.2.2.2.2.2.2.2.2.2.2.2.2.2.2.1, o5.2.2.2.2.2.2.2.2.2.2.2.2.2.2.2.2.2.1, o5.2.2.2.2.2.2.2.2.2.2.2.2.2.2.2.2.2.2.1, o5.2.2.2.2.2.2.2.2.2.2.2.2.2.2.2.2.2.2.2.1, o5.2.2.2.2.2.2.2.2.2.2.2.2.2.2.2.2.2.2.2.2.1, o5.2.2.2.2.2.2.2.2.2.2.2.2.2.2.2.2.2.2.2.2.2.1, o5.2.2.2.2.2.2.2.2.2.2.2.2.2.2.2.2.2.2.2.2.2.2.1, o5.2.2.2.2.2.2.2.2.2.2.2.2.2.2.2.2.2.2.2.2.2.2.2.1, o5.2.2.2.2.2.2.2.2.2.2.2.2.2.2.2.2.2.2.2.2.2.2.2.2.1, o5.2.2.2.2.2.2.2.2.2.2.2.2.2.2.2.2.2.2.2.2.2.2.2.2.2.1, o5.2.2.2.2.2.2.2.2.2.2.2.2.2.2.2.2.2.2.2.2.2.2.2.2.2.2)))))))
theorem inX4_behind_X1 : ∀ w ∈ wsX10, w ∈ wsX4_behind := fun w h => List.mem_cons_of_mem _ (List.mem_append_left _ (List.mem_append_left _ (List.mem_append_left _ (List.mem_append_right _ h))))
theorem inX4_behind_X3 : ∀ w ∈ wsX30, w ∈ wsX4_behind := fun w h => List.mem_cons_of_mem _ (List.mem_append_left _ (List.mem_append_left _ (List.mem_append_right _ h)))
theorem inX4_behind_X4 : ∀ w ∈ wsX40, w ∈ wsX4_behind := fun w h => List.mem_cons_of_mem _ (List.mem_append_left _ (List.mem_append_left _ (List.mem_append_left _ (List.mem_append_left _ (List.mem_append_right _ h)))))
theorem yd_X4_behind : yX4_behind.cls ≠ "java/lang/invoke/MethodHandle" ∧ yX4_behind.cls ≠ "java/lang/invoke/VarHandle" ∧ (parseMethodDescriptor yX4_behind.desc).map (fun d => d.parameters.length) = some 2 := by decide +kernel
abbrev rmX4_behind : Room := { frames := 6, cells := 0, slots := 0, locals := 138 }
set_option maxHeartbeats 4000000 in
set_option maxRecDepth 100000 in
theorem k_X4_behind (l : Launch) (D : va_G) (K : Nat → ClassId) (ax : Nat) (ad : Nat) (ar : Nat) (aw : Nat) (qd : Nat → Nat) (aig : Nat) (q : Nat → Nat) (zyearShop : Nat) (zimages : Nat) (zmeans : Nat) (vsgc : Int32) (vdyfp : Int32) (vdyac : Int32) (vdyba : Int32) (vdywy : Int32) (vdyse : Int32) (vdysp : Int32) (vdyhe : Int32) (vdyhw : Int32) (vrdaw : Int32) (vrdac : Int32) (vrdsp : Int32) (vrdwo : Int32) (vrdot : Int32) (vrwst : Int32) (vrwln : Int32) (vwd : Nat → Int32) (vkd : Nat → Int32) (vrd : Nat → Int32) (vpd : Nat → Int32) (vbd : Nat → Int32) (vid : Nat → Int32) (vwcd : Int32) (vld : Nat → Int32) (vgd : Nat → Int32) (vod : Nat → Int32) (vscd : Int32) (vfg : Nat → Int32) (vw : Nat → Int32) (vk : Nat → Int32) (vr : Nat → Int32) (vp : Nat → Int32) (vb : Nat → Int32) (vi : Nat → Int32) (vwc : Int32) (vl : Nat → Int32) (vg : Nat → Int32) (vo : Nat → Int32) (vsc : Int32) (p0 : Int32) (p1 : Int32) (out : Int32 × Int32 × Int32 × Int32 × Int32 × Int32 × Int32 × Int32 × Int32 × Int32 × Int32 × Int32 × Int32 × Int32 × Int32 × Int32 × (Nat → Int32) × (Nat → Int32) × (Nat → Int32) × (Nat → Int32) × (Nat → Int32) × (Nat → Int32) × Int32 × (Nat → Int32) × (Nat → Int32) × (Nat → Int32) × Int32) (hf : f_X4_behind vsgc vdyfp vdyac vdyba vdywy vdyse vdysp vdyhe vdyhw vrdaw vrdac vrdsp vrdwo vrdot vrwst vrwln vwd vkd vrd vpd vbd vid vwcd vld vgd vod vscd vfg vw vk vr vp vb vi vwc vl vg vo vsc p0 p1 = some out) : kI l D K .int yX4_behind wsX4_behind rmX4_behind [.ref ax, .int p0, .int p1] ((xoW ax (q 0) zyearShop zimages aig ad zmeans vsgc) ++ (dyW ad (qd 0) ar aw vdyfp vdyac vdyba vdywy vdyse vdysp vdyhe vdyhw) ++ (rdW ar vrdaw vrdac vrdsp vrdwo vrdot) ++ (rwW aw vrwst vrwln) ++ (shW K qd vwd vkd vrd vpd vbd vid vwcd vld vgd vod vscd) ++ (iaW K aig 60 vfg) ++ (shW K q vw vk vr vp vb vi vwc vl vg vo vsc)) out.1 ((xoW ax (q 0) zyearShop zimages aig ad zmeans vsgc) ++ (dyW ad (qd 0) ar aw out.2.1 out.2.2.1 out.2.2.2.1 out.2.2.2.2.1 out.2.2.2.2.2.1 out.2.2.2.2.2.2.1 out.2.2.2.2.2.2.2.1 out.2.2.2.2.2.2.2.2.1) ++ (rdW ar out.2.2.2.2.2.2.2.2.2.1 out.2.2.2.2.2.2.2.2.2.2.1 out.2.2.2.2.2.2.2.2.2.2.2.1 out.2.2.2.2.2.2.2.2.2.2.2.2.1 out.2.2.2.2.2.2.2.2.2.2.2.2.2.1) ++ (rwW aw out.2.2.2.2.2.2.2.2.2.2.2.2.2.2.1 out.2.2.2.2.2.2.2.2.2.2.2.2.2.2.2.1) ++ (shW K qd out.2.2.2.2.2.2.2.2.2.2.2.2.2.2.2.2.1 out.2.2.2.2.2.2.2.2.2.2.2.2.2.2.2.2.2.1 out.2.2.2.2.2.2.2.2.2.2.2.2.2.2.2.2.2.2.1 out.2.2.2.2.2.2.2.2.2.2.2.2.2.2.2.2.2.2.2.1 out.2.2.2.2.2.2.2.2.2.2.2.2.2.2.2.2.2.2.2.2.1 out.2.2.2.2.2.2.2.2.2.2.2.2.2.2.2.2.2.2.2.2.2.1 out.2.2.2.2.2.2.2.2.2.2.2.2.2.2.2.2.2.2.2.2.2.2.1 out.2.2.2.2.2.2.2.2.2.2.2.2.2.2.2.2.2.2.2.2.2.2.2.1 out.2.2.2.2.2.2.2.2.2.2.2.2.2.2.2.2.2.2.2.2.2.2.2.2.1 out.2.2.2.2.2.2.2.2.2.2.2.2.2.2.2.2.2.2.2.2.2.2.2.2.2.1 out.2.2.2.2.2.2.2.2.2.2.2.2.2.2.2.2.2.2.2.2.2.2.2.2.2.2) ++ (iaW K aig 60 vfg) ++ (shW K q vw vk vr vp vb vi vwc vl vg vo vsc)) := by
  refine kI.of (cc := cX4_behind) (maxL := 4) (by decide) rfl (Nat.le_of_ble_eq_true rfl) ?_
  intro p e s m args below meth c A H0 Q ls hx hb hml hown hts hK hN hA hP hD hS hl hret
  have hown : s.vm.findClass RX4 = some m.cls := hown
  have hl : lv_has ls 4 [(0, .ref ax), (1, .int p0), (2, .int p1)] := hl
  generalize hH : H0 = H at hP ⊢
  have hS : va_S A H0 H [] := by rw [← hH]; exact hS
  clear hH
  unfold f_X4_behind at hf
  refine lv_iload_n hx hb dX4_behind_0 rfl (lv_at hl 1 rfl) ?_
  obtain ⟨o1, ho1, hf⟩ := bd_el hf
  refine kc0_i (D := D) (va_runS (As := [.int p0]) (rest := []) ⟨hx, hb, hml, hown, hts⟩ ((k_X4_isSpeaker l D K p0 o1 ho1) H.size) (va_cwS 1 hts gX4_behind_X4_isSpeaker rfl rfl rfl yd_X4_isSpeaker ⟨Nat.le_of_ble_eq_true rfl, Nat.le_of_ble_eq_true rfl⟩) (kPreS va_P_nil (va_D_nil (A := fun _ => True)) hK hN) rfl rfl hl.1 rfl (lv_room (Nat.le_of_ble_eq_true rfl)) dX4_behind_1 ⟨Nat.le_of_ble_eq_true rfl, Nat.le_of_ble_eq_true rfl⟩) hP hS hA (fun hzo1 H locs hP hS => ?_)
  refine lv_if_ne (tgt := 9) hx hb dX4_behind_4 (by decide) (fun c2 => ?_) (fun c2 => ?_)
  · rw [if_neg c2] at hf
    refine lv_iload_n hx hb dX4_behind_9 rfl (lv_at hl 2 rfl) ?_
    refine lv_iconst (v := 0) hx hb dX4_behind_10 (by decide) ?_
    refine lv_iconst (v := 1) hx hb dX4_behind_11 (by decide) ?_
    obtain ⟨o3, ho3, hf⟩ := bd_el hf
    refine kc0_i (D := D) (va_runS (As := [.int p1, .int 0, .int 1]) (rest := []) ⟨hx, hb, hml, hown, hts⟩ ((k_X4_isWithin l D K p1 (0) (1) o3 ho3) H.size) (va_cwS 3 hts gX4_behind_X4_isWithin rfl rfl rfl yd_X4_isWithin ⟨Nat.le_of_ble_eq_true rfl, Nat.le_of_ble_eq_true rfl⟩) (kPreS va_P_nil (va_D_nil (A := fun _ => True)) hK hN) rfl rfl hl.1 rfl (lv_room (Nat.le_of_ble_eq_true rfl)) dX4_behind_12 ⟨Nat.le_of_ble_eq_true rfl, Nat.le_of_ble_eq_true rfl⟩) hP hS hA (fun hzo3 H locs hP hS => ?_)
    refine lv_if_ne (tgt := 21) hx hb dX4_behind_15 (by decide) (fun c4 => ?_) (fun c4 => ?_)
    · rw [if_neg c4] at hf
      refine lv_aload_n hx hb dX4_behind_21 rfl (lv_at hl 0 rfl) ?_
      refine va_get (D := D) (ci := 4) (v := .ref ad) (C := RX4) (T := TX4) (N := 7) hx hb hts inX4_behind_X4 hown hK hP 0 rfl rfl 5 (by decide) (hts (.fieldLink RX4 34 "WordScales" "days" "LWordScales$Days;") (List.mem_of_getElem? (i := 1) rfl)) (fun _ h9 => h9) rfl dX4_behind_22 ?_
      refine lv_aload_n hx hb dX4_behind_25 rfl (lv_at hl 0 rfl) ?_
      refine va_get (D := D) (ci := 4) (v := .ref aig) (C := RX4) (T := TX4) (N := 7) hx hb hts inX4_behind_X4 hown hK hP 0 rfl rfl 3 (by decide) (hts (.fieldLink RX4 23 "WordScales" "signs" "[I") (List.mem_of_getElem? (i := 2) rfl)) (fun _ h9 => h9) rfl dX4_behind_26 ?_
      refine lv_aload_n hx hb dX4_behind_29 rfl (lv_at hl 0 rfl) ?_
      refine va_get (D := D) (ci := 4) (v := .int vsgc) (C := RX4) (T := TX4) (N := 7) hx hb hts inX4_behind_X4 hown hK hP 0 rfl rfl 4 (by decide) (hts (.fieldLink RX4 27 "WordScales" "signCount" "I") (List.mem_of_getElem? (i := 3) rfl)) (fun _ h9 => h9) rfl dX4_behind_30 ?_
      refine lv_aload_n hx hb dX4_behind_33 rfl (lv_at hl 0 rfl) ?_
      refine va_get (D := D) (ci := 4) (v := .ref (q 0)) (C := RX4) (T := TX4) (N := 7) hx hb hts inX4_behind_X4 hown hK hP 0 rfl rfl 0 (by decide) (hts (.fieldLink RX4 10 "WordScales" "shop" "LWordScales$Shop;") (List.mem_of_getElem? (i := 4) rfl)) (fun _ h9 => h9) rfl dX4_behind_34 ?_
      obtain ⟨o5, ho5, hf⟩ := ob_el hf
      have hPc : va_P D vwCl ((dyW ad (qd 0) ar aw vdyfp vdyac vdyba vdywy vdyse vdysp vdyhe vdyhw) ++ (rdW ar vrdaw vrdac vrdsp vrdwo vrdot) ++ (rwW aw vrwst vrwln) ++ (shW K qd vwd vkd vrd vpd vbd vid vwcd vld vgd vod vscd) ++ (iaW K aig 60 vfg) ++ (shW K q vw vk vr vp vb vi vwc vl vg vo vsc)) H := hP.sub [1, 2, 3, 4, 5, 6, 7, 8, 9, 10, 11, 12, 13, 14, 15, 16, 17, 18, 19, 20, 21, 22, 23, 24] rfl
      have hDc : va_D A ((dyW ad (qd 0) ar aw vdyfp vdyac vdyba vdywy vdyse vdysp vdyhe vdyhw) ++ (rdW ar vrdaw vrdac vrdsp vrdwo vrdot) ++ (rwW aw vrwst vrwln) ++ (shW K qd vwd vkd vrd vpd vbd vid vwcd vld vgd vod vscd) ++ (iaW K aig 60 vfg) ++ (shW K q vw vk vr vp vb vi vwc vl vg vo vsc)) := hD.sub [1, 2, 3, 4, 5, 6, 7, 8, 9, 10, 11, 12, 13, 14, 15, 16, 17, 18, 19, 20, 21, 22, 23, 24] (by decide) rfl
      refine kcg_i (D := D) (wc := ((dyW ad (qd 0) ar aw vdyfp vdyac vdyba vdywy vdyse vdysp vdyhe vdyhw) ++ (rdW ar vrdaw vrdac vrdsp vrdwo vrdot) ++ (rwW aw vrwst vrwln) ++ (shW K qd vwd vkd vrd vpd vbd vid vwcd vld vgd vod vscd) ++ (iaW K aig 60 vfg) ++ (shW K q vw vk vr vp vb vi vwc vl vg vo vsc))) (wc' := ((dyW ad (qd 0) ar aw o5.2.1 o5.2.2.1 o5.2.2.2.1 o5.2.2.2.2.1 o5.2.2.2.2.2.1 o5.2.2.2.2.2.2.1 o5.2.2.2.2.2.2.2.1 o5.2.2.2.2.2.2.2.2.1) ++ (rdW ar o5.2.2.2.2.2.2.2.2.2.1 o5.2.2.2.2.2.2.2.2.2.2.1 o5.2.2.2.2.2.2.2.2.2.2.2.1 o5.2.2.2.2.2.2.2.2.2.2.2.2.1 o5.2.2.2.2.2.2.2.2.2.2.2.2.2.1) ++ (rwW aw o5.2.2.2.2.2.2.2.2.2.2.2.2.2.2.1 o5.2.2.2.2.2.2.2.2.2.2.2.2.2.2.2.1) ++ (shW K qd o5.2.2.2.2.2.2.2.2.2.2.2.2.2.2.2.2.1 o5.2.2.2.2.2.2.2.2.2.2.2.2.2.2.2.2.2.1 o5.2.2.2.2.2.2.2.2.2.2.2.2.2.2.2.2.2.2.1 o5.2.2.2.2.2.2.2.2.2.2.2.2.2.2.2.2.2.2.2.1 o5.2.2.2.2.2.2.2.2.2.2.2.2.2.2.2.2.2.2.2.2.1 o5.2.2.2.2.2.2.2.2.2.2.2.2.2.2.2.2.2.2.2.2.2.1 o5.2.2.2.2.2.2.2.2.2.2.2.2.2.2.2.2.2.2.2.2.2.2.1 o5.2.2.2.2.2.2.2.2.2.2.2.2.2.2.2.2.2.2.2.2.2.2.2.1 o5.2.2.2.2.2.2.2.2.2.2.2.2.2.2.2.2.2.2.2.2.2.2.2.2.1 o5.2.2.2.2.2.2.2.2.2.2.2.2.2.2.2.2.2.2.2.2.2.2.2.2.2.1 o5.2.2.2.2.2.2.2.2.2.2.2.2.2.2.2.2.2.2.2.2.2.2.2.2.2.2) ++ (iaW K aig 60 vfg) ++ (shW K q vw vk vr vp vb vi vwc vl vg vo vsc))) (wr := [0].filterMap (fun i => (((xoW ax (q 0) zyearShop zimages aig ad zmeans vsgc) ++ (dyW ad (qd 0) ar aw vdyfp vdyac vdyba vdywy vdyse vdysp vdyhe vdyhw) ++ (rdW ar vrdaw vrdac vrdsp vrdwo vrdot) ++ (rwW aw vrwst vrwln) ++ (shW K qd vwd vkd vrd vpd vbd vid vwcd vld vgd vod vscd) ++ (iaW K aig 60 vfg) ++ (shW K q vw vk vr vp vb vi vwc vl vg vo vsc)) : va_W)[i]?)) (ws2 := ((xoW ax (q 0) zyearShop zimages aig ad zmeans vsgc) ++ (dyW ad (qd 0) ar aw o5.2.1 o5.2.2.1 o5.2.2.2.1 o5.2.2.2.2.1 o5.2.2.2.2.2.1 o5.2.2.2.2.2.2.1 o5.2.2.2.2.2.2.2.1 o5.2.2.2.2.2.2.2.2.1) ++ (rdW ar o5.2.2.2.2.2.2.2.2.2.1 o5.2.2.2.2.2.2.2.2.2.2.1 o5.2.2.2.2.2.2.2.2.2.2.2.1 o5.2.2.2.2.2.2.2.2.2.2.2.2.1 o5.2.2.2.2.2.2.2.2.2.2.2.2.2.1) ++ (rwW aw o5.2.2.2.2.2.2.2.2.2.2.2.2.2.2.1 o5.2.2.2.2.2.2.2.2.2.2.2.2.2.2.2.1) ++ (shW K qd o5.2.2.2.2.2.2.2.2.2.2.2.2.2.2.2.2.1 o5.2.2.2.2.2.2.2.2.2.2.2.2.2.2.2.2.2.1 o5.2.2.2.2.2.2.2.2.2.2.2.2.2.2.2.2.2.2.1 o5.2.2.2.2.2.2.2.2.2.2.2.2.2.2.2.2.2.2.2.1 o5.2.2.2.2.2.2.2.2.2.2.2.2.2.2.2.2.2.2.2.2.1 o5.2.2.2.2.2.2.2.2.2.2.2.2.2.2.2.2.2.2.2.2.2.1 o5.2.2.2.2.2.2.2.2.2.2.2.2.2.2.2.2.2.2.2.2.2.2.1 o5.2.2.2.2.2.2.2.2.2.2.2.2.2.2.2.2.2.2.2.2.2.2.2.1 o5.2.2.2.2.2.2.2.2.2.2.2.2.2.2.2.2.2.2.2.2.2.2.2.2.1 o5.2.2.2.2.2.2.2.2.2.2.2.2.2.2.2.2.2.2.2.2.2.2.2.2.2.1 o5.2.2.2.2.2.2.2.2.2.2.2.2.2.2.2.2.2.2.2.2.2.2.2.2.2.2) ++ (iaW K aig 60 vfg) ++ (shW K q vw vk vr vp vb vi vwc vl vg vo vsc))) (va_runVN (As := [.ref aig, .int vsgc, .ref (q 0)]) (rest := []) ⟨hx, hb, hml, hown, hts⟩ ((k_X1_readAll l D K ad ar aw qd aig q vdyfp vdyac vdyba vdywy vdyse vdysp vdyhe vdyhw vrdaw vrdac vrdsp vrdwo vrdot vrwst vrwln vwd vkd vrd vpd vbd vid vwcd vld vgd vod vscd vfg vw vk vr vp vb vi vwc vl vg vo vsc vsgc o5 ho5) H.size) ⟨va_cnB 3 hts gX4_behind_X1_readAll_n85 rfl rfl rfl (hN _ (List.mem_of_getElem? (i := 36) rfl)) (hts (.initialized RX1) (List.mem_of_getElem? (i := 13) rfl)) yd_X1_readAll ⟨Nat.le_of_ble_eq_true rfl, Nat.le_of_ble_eq_true rfl⟩, (hts (.instanceMethod yX1_readAll) (List.mem_of_getElem? (i := 12) rfl)), (hts (.selects RX1 yX1_readAll yX1_readAll) (List.mem_of_getElem? (i := 14) rfl))⟩ (kPreV (ci := 1) (q0 := 1) hP rfl rfl hPc hDc hK hN) rfl rfl hl.1 rfl (lv_room (Nat.le_of_ble_eq_true rfl)) dX4_behind_37 ⟨Nat.le_of_ble_eq_true rfl, Nat.le_of_ble_eq_true rfl⟩) hP hD hS hA [1, 2, 3, 4, 5, 6, 7, 8, 9, 10, 11, 12, 13, 14, 15, 16, 17, 18, 19, 20, 21, 22, 23, 24] [0] [0, 1, 2, 3, 4, 5, 6, 7, 8, 9, 10, 11, 12, 13, 14, 15, 16, 17, 18, 19, 20, 21, 22, 23, 24] rfl rfl (by decide) (by decide) rfl (by decide) (fun hzo5 H locs hP hD hS => ?_)
      refine lv_istore_n (lv' := [(3, .int o5.1), (0, .ref ax), (1, .int p0), (2, .int p1)]) hx hb dX4_behind_40 rfl hl (by decide) rfl (fun ls hl => ?_)
      refine lv_iload_n hx hb dX4_behind_41 rfl (lv_at hl 0 rfl) ?_
      refine lv_if_eq (tgt := 47) hx hb dX4_behind_42 (by decide) (fun c6 => ?_) (fun c6 => ?_)
      · rw [if_pos c6] at hf
        refine lv_iload_n hx hb dX4_behind_47 rfl (lv_at hl 3 rfl) ?_
        refine lv_if_ne (tgt := 66) hx hb dX4_behind_48 (by decide) (fun c7 => ?_) (fun c7 => ?_)
        · rw [if_neg c7] at hf
          refine lv_aload_n hx hb dX4_behind_66 rfl (lv_at hl 1 rfl) ?_
          refine va_get (D := D) (ci := 4) (v := .ref ad) (C := RX4) (T := TX4) (N := 7) hx hb hts inX4_behind_X4 hown hK hP 0 rfl rfl 5 (by decide) (hts (.fieldLink RX4 34 "WordScales" "days" "LWordScales$Days;") (List.mem_of_getElem? (i := 1) rfl)) (fun _ h9 => h9) rfl dX4_behind_67 ?_
          refine va_getN (D := D) (host := "WordScales") (ci := 1) (v := .ref (qd 0)) (C := RX1) (T := TX1) (N := 11) hx hb hts inX4_behind_X1 hown hK hP 1 rfl rfl 0 (by decide) (va_Nw.use rfl (hN _ (List.mem_of_getElem? (i := 18) rfl))) (fun _ h9 => h9) rfl dX4_behind_70 ?_
          refine va_getN (D := D) (host := "WordScales") (ci := 3) (v := .ref (qd 5)) (C := RX3) (T := TX3) (N := 11) hx hb hts inX4_behind_X3 hown hK hP 4 rfl rfl 4 (by decide) (va_Nw.use rfl (hN _ (List.mem_of_getElem? (i := 6) rfl))) (fun _ h9 => h9) rfl dX4_behind_73 ?_
          refine lv_iload_n hx hb dX4_behind_76 rfl (lv_at hl 2 rfl) ?_
          obtain ⟨v8, hf⟩ := chk_el hf
          refine va_iald (D := D) (f := o5.2.2.2.2.2.2.2.2.2.2.2.2.2.2.2.2.2.2.2.2.1) hx hb hK hP 9 0 rfl rfl v8 dX4_behind_77 ?_
          obtain rfl := Option.some.inj hf
          exact hret rfl rfl rfl hP hD hS dX4_behind_78
        · rw [if_pos c7] at hf
          refine lv_aload_n hx hb dX4_behind_51 rfl (lv_at hl 1 rfl) ?_
          refine va_get (D := D) (ci := 4) (v := .ref ad) (C := RX4) (T := TX4) (N := 7) hx hb hts inX4_behind_X4 hown hK hP 0 rfl rfl 5 (by decide) (hts (.fieldLink RX4 34 "WordScales" "days" "LWordScales$Days;") (List.mem_of_getElem? (i := 1) rfl)) (fun _ h9 => h9) rfl dX4_behind_52 ?_
          refine va_getN (D := D) (host := "WordScales") (ci := 1) (v := .ref (qd 0)) (C := RX1) (T := TX1) (N := 11) hx hb hts inX4_behind_X1 hown hK hP 1 rfl rfl 0 (by decide) (va_Nw.use rfl (hN _ (List.mem_of_getElem? (i := 18) rfl))) (fun _ h9 => h9) rfl dX4_behind_55 ?_
          refine va_getN (D := D) (host := "WordScales") (ci := 3) (v := .ref (qd 4)) (C := RX3) (T := TX3) (N := 11) hx hb hts inX4_behind_X3 hown hK hP 4 rfl rfl 3 (by decide) (va_Nw.use rfl (hN _ (List.mem_of_getElem? (i := 5) rfl))) (fun _ h9 => h9) rfl dX4_behind_58 ?_
          refine lv_iload_n hx hb dX4_behind_61 rfl (lv_at hl 2 rfl) ?_
          obtain ⟨v9, hf⟩ := chk_el hf
          refine va_iald (D := D) (f := o5.2.2.2.2.2.2.2.2.2.2.2.2.2.2.2.2.2.2.2.1) hx hb hK hP 8 0 rfl rfl v9 dX4_behind_62 ?_
          refine lv_goto (tgt := 78) hx hb dX4_behind_63 (by decide) ?_
          obtain rfl := Option.some.inj hf
          exact hret rfl rfl rfl hP hD hS dX4_behind_78
      · rw [if_neg c6] at hf
        refine lv_iload_n hx hb dX4_behind_45 rfl (lv_at hl 0 rfl) ?_
        obtain rfl := Option.some.inj hf
        exact hret rfl rfl rfl hP hD hS dX4_behind_46
    · rw [if_pos c4] at hf
      refine lv_bipush (v := (-2)) hx hb dX4_behind_18 (by decide) ?_
      obtain rfl := Option.some.inj hf
      exact hret rfl rfl rfl hP hD hS dX4_behind_20
  · rw [if_pos c2] at hf
    refine lv_iconst (v := (-1)) hx hb dX4_behind_7 (by decide) ?_
    obtain rfl := Option.some.inj hf
    exact hret rfl rfl rfl hP hD hS dX4_behind_8
def f_X4_worn (vsgc : Int32) (vdyfp : Int32) (vdyac : Int32) (vdyba : Int32) (vdywy : Int32) (vdyse : Int32) (vdysp : Int32) (vdyhe : Int32) (vdyhw : Int32) (vrdaw : Int32) (vrdac : Int32) (vrdsp : Int32) (vrdwo : Int32) (vrdot : Int32) (vrwst : Int32) (vrwln : Int32) (vwd : Nat → Int32) (vkd : Nat → Int32) (vrd : Nat → Int32) (vpd : Nat → Int32) (vbd : Nat → Int32) (vid : Nat → Int32) (vwcd : Int32) (vld : Nat → Int32) (vgd : Nat → Int32) (vod : Nat → Int32) (vscd : Int32) (vfg : Nat → Int32) (vw : Nat → Int32) (vk : Nat → Int32) (vr : Nat → Int32) (vp : Nat → Int32) (vb : Nat → Int32) (vi : Nat → Int32) (vwc : Int32) (vl : Nat → Int32) (vg : Nat → Int32) (vo : Nat → Int32) (vsc : Int32) (p0 : Int32) : Option (Int32 × Int32 × Int32 × Int32 × Int32 × Int32 × Int32 × Int32 × Int32 × Int32 × Int32 × Int32 × Int32 × Int32 × Int32 × Int32 × (Nat → Int32) × (Nat → Int32) × (Nat → Int32) × (Nat → Int32) × (Nat → Int32) × (Nat → Int32) × Int32 × (Nat → Int32) × (Nat → Int32) × (Nat → Int32) × Int32) := bd (f_X4_isWord p0) (fun o1 => if o1 = 0 then (some ((-1), vdyfp, vdyac, vdyba, vdywy, vdyse, vdysp, vdyhe, vdyhw, vrdaw, vrdac, vrdsp, vrdwo, vrdot, vrwst, vrwln, vwd, vkd, vrd, vpd, vbd, vid, vwcd, vld, vgd, vod, vscd)) else (ob (f_X1_readAll vdyfp vdyba vrdac vrdsp vrdwo vrdot vwd vkd vrd vpd vbd vid vld vgd vod vfg vw vk vr vp vb vi vwc vl vg vo vsc vsgc) (fun o3 => if o3.1 = 0 then (chk p0 12 (some ((o3.2.2.2.2.2.2.2.2.2.2.2.2.2.2.2.2.1 (p0).toNatClampNeg), o3.2.1, o3.2.2.1, o3.2.2.2.1, o3.2.2.2.2.1, o3.2.2.2.2.2.1, o3.2.2.2.2.2.2.1, o3.2.2.2.2.2.2.2.1, o3.2.2.2.2.2.2.2.2.1, o3.2.2.2.2.2.2.2.2.2.1, o3.2.2.2.2.2.2.2.2.2.2.1, o3.2.2.2.2.2.2.2.2.2.2.2.1, o3.2.2.2.2.2.2.2.2.2.2.2.2.1, o3.2.2.2.2.2.2.2.2.2.2.2.2.2.1, o3.2.2.2.2.2.2.2.2.2.2.2.2.2.2.1, o3.2.2.2.2.2.2.2.2.2.2.2.2.2.2.2.1, o3.2.2.2.2.2.2.2.2.2.2.2.2.2.2.2.2.1, o3.2.2.2.2.2.2.2.2.2.2.2.2.2.2.2.2.2.1, o3.2.2.2.2.2.2.2.2.2.2.2.2.2.2.2.2.2.2.1, o3.2.2.2.2.2.2.2.2.2.2.2.2.2.2.2.2.2.2.2.1, o3.2.2.2.2.2.2.2.2.2.2.2.2.2.2.2.2.2.2.2.2.1, o3.2.2.2.2.2.2.2.2.2.2.2.2.2.2.2.2.2.2.2.2.2.1, o3.2.2.2.2.2.2.2.2.2.2.2.2.2.2.2.2.2.2.2.2.2.2.1, o3.2.2.2.2.2.2.2.2.2.2.2.2.2.2.2.2.2.2.2.2.2.2.2.1, o3.2.2.2.2.2.2.2.2.2.2.2.2.2.2.2.2.2.2.2.2.2.2.2.2.1, o3.2.2.2.2.2.2.2.2.2.2.2.2.2.2.2.2.2.2.2.2.2.2.2.2.2.1, o3.2.2.2.2.2.2.2.2.2.2.2.2.2.2.2.2.2.2.2.2.2.2.2.2.2.2))) else (some (o3.1, o3.2.1, o3.2.2.1, o3.2.2.2.1, o3.2.2.2.2.1, o3.2.2.2.2.2.1, o3.2.2.2.2.2.2.1, o3.2.2.2.2.2.2.2.1, o3.2.2.2.2.2.2.2.2.1, o3.2.2.2.2.2.2.2.2.2.1, o3.2.2.2.2.2.2.2.2.2.2.1, o3.2.2.2.2.2.2.2.2.2.2.2.1, o3.2.2.2.2.2.2.2.2.2.2.2.2.1, o3.2.2.2.2.2.2.2.2.2.2.2.2.2.1, o3.2.2.2.2.2.2.2.2.2.2.2.2.2.2.1, o3.2.2.2.2.2.2.2.2.2.2.2.2.2.2.2.1, o3.2.2.2.2.2.2.2.2.2.2.2.2.2.2.2.2.1, o3.2.2.2.2.2.2.2.2.2.2.2.2.2.2.2.2.2.1, o3.2.2.2.2.2.2.2.2.2.2.2.2.2.2.2.2.2.2.1, o3.2.2.2.2.2.2.2.2.2.2.2.2.2.2.2.2.2.2.2.1, o3.2.2.2.2.2.2.2.2.2.2.2.2.2.2.2.2.2.2.2.2.1, o3.2.2.2.2.2.2.2.2.2.2.2.2.2.2.2.2.2.2.2.2.2.1, o3.2.2.2.2.2.2.2.2.2.2.2.2.2.2.2.2.2.2.2.2.2.2.1, o3.2.2.2.2.2.2.2.2.2.2.2.2.2.2.2.2.2.2.2.2.2.2.2.1, o3.2.2.2.2.2.2.2.2.2.2.2.2.2.2.2.2.2.2.2.2.2.2.2.2.1, o3.2.2.2.2.2.2.2.2.2.2.2.2.2.2.2.2.2.2.2.2.2.2.2.2.2.1, o3.2.2.2.2.2.2.2.2.2.2.2.2.2.2.2.2.2.2.2.2.2.2.2.2.2.2)))))
theorem inX4_worn_X1 : ∀ w ∈ wsX10, w ∈ wsX4_worn := fun w h => List.mem_cons_of_mem _ (List.mem_append_left _ (List.mem_append_left _ (List.mem_append_left _ (List.mem_append_right _ h))))
theorem inX4_worn_X3 : ∀ w ∈ wsX30, w ∈ wsX4_worn := fun w h => List.mem_cons_of_mem _ (List.mem_append_left _ (List.mem_append_left _ (List.mem_append_right _ h)))
theorem inX4_worn_X4 : ∀ w ∈ wsX40, w ∈ wsX4_worn := fun w h => List.mem_cons_of_mem _ (List.mem_append_left _ (List.mem_append_left _ (List.mem_append_left _ (List.mem_append_left _ (List.mem_append_right _ h)))))
theorem yd_X4_worn : yX4_worn.cls ≠ "java/lang/invoke/MethodHandle" ∧ yX4_worn.cls ≠ "java/lang/invoke/VarHandle" ∧ (parseMethodDescriptor yX4_worn.desc).map (fun d => d.parameters.length) = some 1 := by decide +kernel
abbrev rmX4_worn : Room := { frames := 6, cells := 0, slots := 0, locals := 138 }
set_option maxHeartbeats 4000000 in
set_option maxRecDepth 100000 in
theorem k_X4_worn (l : Launch) (D : va_G) (K : Nat → ClassId) (ax : Nat) (ad : Nat) (ar : Nat) (aw : Nat) (qd : Nat → Nat) (aig : Nat) (q : Nat → Nat) (zyearShop : Nat) (zimages : Nat) (zmeans : Nat) (vsgc : Int32) (vdyfp : Int32) (vdyac : Int32) (vdyba : Int32) (vdywy : Int32) (vdyse : Int32) (vdysp : Int32) (vdyhe : Int32) (vdyhw : Int32) (vrdaw : Int32) (vrdac : Int32) (vrdsp : Int32) (vrdwo : Int32) (vrdot : Int32) (vrwst : Int32) (vrwln : Int32) (vwd : Nat → Int32) (vkd : Nat → Int32) (vrd : Nat → Int32) (vpd : Nat → Int32) (vbd : Nat → Int32) (vid : Nat → Int32) (vwcd : Int32) (vld : Nat → Int32) (vgd : Nat → Int32) (vod : Nat → Int32) (vscd : Int32) (vfg : Nat → Int32) (vw : Nat → Int32) (vk : Nat → Int32) (vr : Nat → Int32) (vp : Nat → Int32) (vb : Nat → Int32) (vi : Nat → Int32) (vwc : Int32) (vl : Nat → Int32) (vg : Nat → Int32) (vo : Nat → Int32) (vsc : Int32) (p0 : Int32) (out : Int32 × Int32 × Int32 × Int32 × Int32 × Int32 × Int32 × Int32 × Int32 × Int32 × Int32 × Int32 × Int32 × Int32 × Int32 × Int32 × (Nat → Int32) × (Nat → Int32) × (Nat → Int32) × (Nat → Int32) × (Nat → Int32) × (Nat → Int32) × Int32 × (Nat → Int32) × (Nat → Int32) × (Nat → Int32) × Int32) (hf : f_X4_worn vsgc vdyfp vdyac vdyba vdywy vdyse vdysp vdyhe vdyhw vrdaw vrdac vrdsp vrdwo vrdot vrwst vrwln vwd vkd vrd vpd vbd vid vwcd vld vgd vod vscd vfg vw vk vr vp vb vi vwc vl vg vo vsc p0 = some out) : kI l D K .int yX4_worn wsX4_worn rmX4_worn [.ref ax, .int p0] ((xoW ax (q 0) zyearShop zimages aig ad zmeans vsgc) ++ (dyW ad (qd 0) ar aw vdyfp vdyac vdyba vdywy vdyse vdysp vdyhe vdyhw) ++ (rdW ar vrdaw vrdac vrdsp vrdwo vrdot) ++ (rwW aw vrwst vrwln) ++ (shW K qd vwd vkd vrd vpd vbd vid vwcd vld vgd vod vscd) ++ (iaW K aig 60 vfg) ++ (shW K q vw vk vr vp vb vi vwc vl vg vo vsc)) out.1 ((xoW ax (q 0) zyearShop zimages aig ad zmeans vsgc) ++ (dyW ad (qd 0) ar aw out.2.1 out.2.2.1 out.2.2.2.1 out.2.2.2.2.1 out.2.2.2.2.2.1 out.2.2.2.2.2.2.1 out.2.2.2.2.2.2.2.1 out.2.2.2.2.2.2.2.2.1) ++ (rdW ar out.2.2.2.2.2.2.2.2.2.1 out.2.2.2.2.2.2.2.2.2.2.1 out.2.2.2.2.2.2.2.2.2.2.2.1 out.2.2.2.2.2.2.2.2.2.2.2.2.1 out.2.2.2.2.2.2.2.2.2.2.2.2.2.1) ++ (rwW aw out.2.2.2.2.2.2.2.2.2.2.2.2.2.2.1 out.2.2.2.2.2.2.2.2.2.2.2.2.2.2.2.1) ++ (shW K qd out.2.2.2.2.2.2.2.2.2.2.2.2.2.2.2.2.1 out.2.2.2.2.2.2.2.2.2.2.2.2.2.2.2.2.2.1 out.2.2.2.2.2.2.2.2.2.2.2.2.2.2.2.2.2.2.1 out.2.2.2.2.2.2.2.2.2.2.2.2.2.2.2.2.2.2.2.1 out.2.2.2.2.2.2.2.2.2.2.2.2.2.2.2.2.2.2.2.2.1 out.2.2.2.2.2.2.2.2.2.2.2.2.2.2.2.2.2.2.2.2.2.1 out.2.2.2.2.2.2.2.2.2.2.2.2.2.2.2.2.2.2.2.2.2.2.1 out.2.2.2.2.2.2.2.2.2.2.2.2.2.2.2.2.2.2.2.2.2.2.2.1 out.2.2.2.2.2.2.2.2.2.2.2.2.2.2.2.2.2.2.2.2.2.2.2.2.1 out.2.2.2.2.2.2.2.2.2.2.2.2.2.2.2.2.2.2.2.2.2.2.2.2.2.1 out.2.2.2.2.2.2.2.2.2.2.2.2.2.2.2.2.2.2.2.2.2.2.2.2.2.2) ++ (iaW K aig 60 vfg) ++ (shW K q vw vk vr vp vb vi vwc vl vg vo vsc)) := by
  refine kI.of (cc := cX4_worn) (maxL := 3) (by decide) rfl (Nat.le_of_ble_eq_true rfl) ?_
  intro p e s m args below meth c A H0 Q ls hx hb hml hown hts hK hN hA hP hD hS hl hret
  have hown : s.vm.findClass RX4 = some m.cls := hown
  have hl : lv_has ls 3 [(0, .ref ax), (1, .int p0)] := hl
  generalize hH : H0 = H at hP ⊢
  have hS : va_S A H0 H [] := by rw [← hH]; exact hS
  clear hH
  unfold f_X4_worn at hf
  refine lv_iload_n hx hb dX4_worn_0 rfl (lv_at hl 1 rfl) ?_
  obtain ⟨o1, ho1, hf⟩ := bd_el hf
  refine kc0_i (D := D) (va_runS (As := [.int p0]) (rest := []) ⟨hx, hb, hml, hown, hts⟩ ((k_X4_isWord l D K p0 o1 ho1) H.size) (va_cwS 1 hts gX4_worn_X4_isWord rfl rfl rfl yd_X4_isWord ⟨Nat.le_of_ble_eq_true rfl, Nat.le_of_ble_eq_true rfl⟩) (kPreS va_P_nil (va_D_nil (A := fun _ => True)) hK hN) rfl rfl hl.1 rfl (lv_room (Nat.le_of_ble_eq_true rfl)) dX4_worn_1 ⟨Nat.le_of_ble_eq_true rfl, Nat.le_of_ble_eq_true rfl⟩) hP hS hA (fun hzo1 H locs hP hS => ?_)
  refine lv_if_ne (tgt := 9) hx hb dX4_worn_4 (by decide) (fun c2 => ?_) (fun c2 => ?_)
  · rw [if_neg c2] at hf
    refine lv_aload_n hx hb dX4_worn_9 rfl (lv_at hl 0 rfl) ?_
    refine va_get (D := D) (ci := 4) (v := .ref ad) (C := RX4) (T := TX4) (N := 7) hx hb hts inX4_worn_X4 hown hK hP 0 rfl rfl 5 (by decide) (hts (.fieldLink RX4 34 "WordScales" "days" "LWordScales$Days;") (List.mem_of_getElem? (i := 1) rfl)) (fun _ h9 => h9) rfl dX4_worn_10 ?_
    refine lv_aload_n hx hb dX4_worn_13 rfl (lv_at hl 0 rfl) ?_
    refine va_get (D := D) (ci := 4) (v := .ref aig) (C := RX4) (T := TX4) (N := 7) hx hb hts inX4_worn_X4 hown hK hP 0 rfl rfl 3 (by decide) (hts (.fieldLink RX4 23 "WordScales" "signs" "[I") (List.mem_of_getElem? (i := 2) rfl)) (fun _ h9 => h9) rfl dX4_worn_14 ?_
    refine lv_aload_n hx hb dX4_worn_17 rfl (lv_at hl 0 rfl) ?_
    refine va_get (D := D) (ci := 4) (v := .int vsgc) (C := RX4) (T := TX4) (N := 7) hx hb hts inX4_worn_X4 hown hK hP 0 rfl rfl 4 (by decide) (hts (.fieldLink RX4 27 "WordScales" "signCount" "I") (List.mem_of_getElem? (i := 3) rfl)) (fun _ h9 => h9) rfl dX4_worn_18 ?_
    refine lv_aload_n hx hb dX4_worn_21 rfl (lv_at hl 0 rfl) ?_
    refine va_get (D := D) (ci := 4) (v := .ref (q 0)) (C := RX4) (T := TX4) (N := 7) hx hb hts inX4_worn_X4 hown hK hP 0 rfl rfl 0 (by decide) (hts (.fieldLink RX4 10 "WordScales" "shop" "LWordScales$Shop;") (List.mem_of_getElem? (i := 4) rfl)) (fun _ h9 => h9) rfl dX4_worn_22 ?_
    obtain ⟨o3, ho3, hf⟩ := ob_el hf
    have hPc : va_P D vwCl ((dyW ad (qd 0) ar aw vdyfp vdyac vdyba vdywy vdyse vdysp vdyhe vdyhw) ++ (rdW ar vrdaw vrdac vrdsp vrdwo vrdot) ++ (rwW aw vrwst vrwln) ++ (shW K qd vwd vkd vrd vpd vbd vid vwcd vld vgd vod vscd) ++ (iaW K aig 60 vfg) ++ (shW K q vw vk vr vp vb vi vwc vl vg vo vsc)) H := hP.sub [1, 2, 3, 4, 5, 6, 7, 8, 9, 10, 11, 12, 13, 14, 15, 16, 17, 18, 19, 20, 21, 22, 23, 24] rfl
    have hDc : va_D A ((dyW ad (qd 0) ar aw vdyfp vdyac vdyba vdywy vdyse vdysp vdyhe vdyhw) ++ (rdW ar vrdaw vrdac vrdsp vrdwo vrdot) ++ (rwW aw vrwst vrwln) ++ (shW K qd vwd vkd vrd vpd vbd vid vwcd vld vgd vod vscd) ++ (iaW K aig 60 vfg) ++ (shW K q vw vk vr vp vb vi vwc vl vg vo vsc)) := hD.sub [1, 2, 3, 4, 5, 6, 7, 8, 9, 10, 11, 12, 13, 14, 15, 16, 17, 18, 19, 20, 21, 22, 23, 24] (by decide) rfl
    refine kcg_i (D := D) (wc := ((dyW ad (qd 0) ar aw vdyfp vdyac vdyba vdywy vdyse vdysp vdyhe vdyhw) ++ (rdW ar vrdaw vrdac vrdsp vrdwo vrdot) ++ (rwW aw vrwst vrwln) ++ (shW K qd vwd vkd vrd vpd vbd vid vwcd vld vgd vod vscd) ++ (iaW K aig 60 vfg) ++ (shW K q vw vk vr vp vb vi vwc vl vg vo vsc))) (wc' := ((dyW ad (qd 0) ar aw o3.2.1 o3.2.2.1 o3.2.2.2.1 o3.2.2.2.2.1 o3.2.2.2.2.2.1 o3.2.2.2.2.2.2.1 o3.2.2.2.2.2.2.2.1 o3.2.2.2.2.2.2.2.2.1) ++ (rdW ar o3.2.2.2.2.2.2.2.2.2.1 o3.2.2.2.2.2.2.2.2.2.2.1 o3.2.2.2.2.2.2.2.2.2.2.2.1 o3.2.2.2.2.2.2.2.2.2.2.2.2.1 o3.2.2.2.2.2.2.2.2.2.2.2.2.2.1) ++ (rwW aw o3.2.2.2.2.2.2.2.2.2.2.2.2.2.2.1 o3.2.2.2.2.2.2.2.2.2.2.2.2.2.2.2.1) ++ (shW K qd o3.2.2.2.2.2.2.2.2.2.2.2.2.2.2.2.2.1 o3.2.2.2.2.2.2.2.2.2.2.2.2.2.2.2.2.2.1 o3.2.2.2.2.2.2.2.2.2.2.2.2.2.2.2.2.2.2.1 o3.2.2.2.2.2.2.2.2.2.2.2.2.2.2.2.2.2.2.2.1 o3.2.2.2.2.2.2.2.2.2.2.2.2.2.2.2.2.2.2.2.2.1 o3.2.2.2.2.2.2.2.2.2.2.2.2.2.2.2.2.2.2.2.2.2.1 o3.2.2.2.2.2.2.2.2.2.2.2.2.2.2.2.2.2.2.2.2.2.2.1 o3.2.2.2.2.2.2.2.2.2.2.2.2.2.2.2.2.2.2.2.2.2.2.2.1 o3.2.2.2.2.2.2.2.2.2.2.2.2.2.2.2.2.2.2.2.2.2.2.2.2.1 o3.2.2.2.2.2.2.2.2.2.2.2.2.2.2.2.2.2.2.2.2.2.2.2.2.2.1 o3.2.2.2.2.2.2.2.2.2.2.2.2.2.2.2.2.2.2.2.2.2.2.2.2.2.2) ++ (iaW K aig 60 vfg) ++ (shW K q vw vk vr vp vb vi vwc vl vg vo vsc))) (wr := [0].filterMap (fun i => (((xoW ax (q 0) zyearShop zimages aig ad zmeans vsgc) ++ (dyW ad (qd 0) ar aw vdyfp vdyac vdyba vdywy vdyse vdysp vdyhe vdyhw) ++ (rdW ar vrdaw vrdac vrdsp vrdwo vrdot) ++ (rwW aw vrwst vrwln) ++ (shW K qd vwd vkd vrd vpd vbd vid vwcd vld vgd vod vscd) ++ (iaW K aig 60 vfg) ++ (shW K q vw vk vr vp vb vi vwc vl vg vo vsc)) : va_W)[i]?)) (ws2 := ((xoW ax (q 0) zyearShop zimages aig ad zmeans vsgc) ++ (dyW ad (qd 0) ar aw o3.2.1 o3.2.2.1 o3.2.2.2.1 o3.2.2.2.2.1 o3.2.2.2.2.2.1 o3.2.2.2.2.2.2.1 o3.2.2.2.2.2.2.2.1 o3.2.2.2.2.2.2.2.2.1) ++ (rdW ar o3.2.2.2.2.2.2.2.2.2.1 o3.2.2.2.2.2.2.2.2.2.2.1 o3.2.2.2.2.2.2.2.2.2.2.2.1 o3.2.2.2.2.2.2.2.2.2.2.2.2.1 o3.2.2.2.2.2.2.2.2.2.2.2.2.2.1) ++ (rwW aw o3.2.2.2.2.2.2.2.2.2.2.2.2.2.2.1 o3.2.2.2.2.2.2.2.2.2.2.2.2.2.2.2.1) ++ (shW K qd o3.2.2.2.2.2.2.2.2.2.2.2.2.2.2.2.2.1 o3.2.2.2.2.2.2.2.2.2.2.2.2.2.2.2.2.2.1 o3.2.2.2.2.2.2.2.2.2.2.2.2.2.2.2.2.2.2.1 o3.2.2.2.2.2.2.2.2.2.2.2.2.2.2.2.2.2.2.2.1 o3.2.2.2.2.2.2.2.2.2.2.2.2.2.2.2.2.2.2.2.2.1 o3.2.2.2.2.2.2.2.2.2.2.2.2.2.2.2.2.2.2.2.2.2.1 o3.2.2.2.2.2.2.2.2.2.2.2.2.2.2.2.2.2.2.2.2.2.2.1 o3.2.2.2.2.2.2.2.2.2.2.2.2.2.2.2.2.2.2.2.2.2.2.2.1 o3.2.2.2.2.2.2.2.2.2.2.2.2.2.2.2.2.2.2.2.2.2.2.2.2.1 o3.2.2.2.2.2.2.2.2.2.2.2.2.2.2.2.2.2.2.2.2.2.2.2.2.2.1 o3.2.2.2.2.2.2.2.2.2.2.2.2.2.2.2.2.2.2.2.2.2.2.2.2.2.2) ++ (iaW K aig 60 vfg) ++ (shW K q vw vk vr vp vb vi vwc vl vg vo vsc))) (va_runVN (As := [.ref aig, .int vsgc, .ref (q 0)]) (rest := []) ⟨hx, hb, hml, hown, hts⟩ ((k_X1_readAll l D K ad ar aw qd aig q vdyfp vdyac vdyba vdywy vdyse vdysp vdyhe vdyhw vrdaw vrdac vrdsp vrdwo vrdot vrwst vrwln vwd vkd vrd vpd vbd vid vwcd vld vgd vod vscd vfg vw vk vr vp vb vi vwc vl vg vo vsc vsgc o3 ho3) H.size) ⟨va_cnB 3 hts gX4_worn_X1_readAll_n85 rfl rfl rfl (hN _ (List.mem_of_getElem? (i := 36) rfl)) (hts (.initialized RX1) (List.mem_of_getElem? (i := 13) rfl)) yd_X1_readAll ⟨Nat.le_of_ble_eq_true rfl, Nat.le_of_ble_eq_true rfl⟩, (hts (.instanceMethod yX1_readAll) (List.mem_of_getElem? (i := 12) rfl)), (hts (.selects RX1 yX1_readAll yX1_readAll) (List.mem_of_getElem? (i := 14) rfl))⟩ (kPreV (ci := 1) (q0 := 1) hP rfl rfl hPc hDc hK hN) rfl rfl hl.1 rfl (lv_room (Nat.le_of_ble_eq_true rfl)) dX4_worn_25 ⟨Nat.le_of_ble_eq_true rfl, Nat.le_of_ble_eq_true rfl⟩) hP hD hS hA [1, 2, 3, 4, 5, 6, 7, 8, 9, 10, 11, 12, 13, 14, 15, 16, 17, 18, 19, 20, 21, 22, 23, 24] [0] [0, 1, 2, 3, 4, 5, 6, 7, 8, 9, 10, 11, 12, 13, 14, 15, 16, 17, 18, 19, 20, 21, 22, 23, 24] rfl rfl (by decide) (by decide) rfl (by decide) (fun hzo3 H locs hP hD hS => ?_)
    refine lv_istore_n (lv' := [(2, .int o3.1), (0, .ref ax), (1, .int p0)]) hx hb dX4_worn_28 rfl hl (by decide) rfl (fun ls hl => ?_)
    refine lv_iload_n hx hb dX4_worn_29 rfl (lv_at hl 0 rfl) ?_
    refine lv_if_ne (tgt := 48) hx hb dX4_worn_30 (by decide) (fun c4 => ?_) (fun c4 => ?_)
    · rw [if_neg c4] at hf
      refine lv_iload_n hx hb dX4_worn_48 rfl (lv_at hl 0 rfl) ?_
      obtain rfl := Option.some.inj hf
      exact hret rfl rfl rfl hP hD hS dX4_worn_49
    · rw [if_pos c4] at hf
      refine lv_aload_n hx hb dX4_worn_33 rfl (lv_at hl 1 rfl) ?_
      refine va_get (D := D) (ci := 4) (v := .ref ad) (C := RX4) (T := TX4) (N := 7) hx hb hts inX4_worn_X4 hown hK hP 0 rfl rfl 5 (by decide) (hts (.fieldLink RX4 34 "WordScales" "days" "LWordScales$Days;") (List.mem_of_getElem? (i := 1) rfl)) (fun _ h9 => h9) rfl dX4_worn_34 ?_
      refine va_getN (D := D) (host := "WordScales") (ci := 1) (v := .ref (qd 0)) (C := RX1) (T := TX1) (N := 11) hx hb hts inX4_worn_X1 hown hK hP 1 rfl rfl 0 (by decide) (va_Nw.use rfl (hN _ (List.mem_of_getElem? (i := 18) rfl))) (fun _ h9 => h9) rfl dX4_worn_37 ?_
      refine va_getN (D := D) (host := "WordScales") (ci := 3) (v := .ref (qd 1)) (C := RX3) (T := TX3) (N := 11) hx hb hts inX4_worn_X3 hown hK hP 4 rfl rfl 0 (by decide) (va_Nw.use rfl (hN _ (List.mem_of_getElem? (i := 0) rfl))) (fun _ h9 => h9) rfl dX4_worn_40 ?_
      refine lv_iload_n hx hb dX4_worn_43 rfl (lv_at hl 2 rfl) ?_
      obtain ⟨v5, hf⟩ := chk_el hf
      refine va_iald (D := D) (f := o3.2.2.2.2.2.2.2.2.2.2.2.2.2.2.2.2.1) hx hb hK hP 5 0 rfl rfl v5 dX4_worn_44 ?_
      refine lv_goto (tgt := 49) hx hb dX4_worn_45 (by decide) ?_
      obtain rfl := Option.some.inj hf
      exact hret rfl rfl rfl hP hD hS dX4_worn_49
  · rw [if_pos c2] at hf
    refine lv_iconst (v := (-1)) hx hb dX4_worn_7 (by decide) ?_
    obtain rfl := Option.some.inj hf
    exact hret rfl rfl rfl hP hD hS dX4_worn_8
def f_X4_said (vsgc : Int32) (vdyfp : Int32) (vdyac : Int32) (vdyba : Int32) (vdywy : Int32) (vdyse : Int32) (vdysp : Int32) (vdyhe : Int32) (vdyhw : Int32) (vrdaw : Int32) (vrdac : Int32) (vrdsp : Int32) (vrdwo : Int32) (vrdot : Int32) (vrwst : Int32) (vrwln : Int32) (vwd : Nat → Int32) (vkd : Nat → Int32) (vrd : Nat → Int32) (vpd : Nat → Int32) (vbd : Nat → Int32) (vid : Nat → Int32) (vwcd : Int32) (vld : Nat → Int32) (vgd : Nat → Int32) (vod : Nat → Int32) (vscd : Int32) (vfg : Nat → Int32) (vw : Nat → Int32) (vk : Nat → Int32) (vr : Nat → Int32) (vp : Nat → Int32) (vb : Nat → Int32) (vi : Nat → Int32) (vwc : Int32) (vl : Nat → Int32) (vg : Nat → Int32) (vo : Nat → Int32) (vsc : Int32) (p0 : Int32) : Option (Int32 × Int32 × Int32 × Int32 × Int32 × Int32 × Int32 × Int32 × Int32 × Int32 × Int32 × Int32 × Int32 × Int32 × Int32 × Int32 × (Nat → Int32) × (Nat → Int32) × (Nat → Int32) × (Nat → Int32) × (Nat → Int32) × (Nat → Int32) × Int32 × (Nat → Int32) × (Nat → Int32) × (Nat → Int32) × Int32) := bd (f_X4_isWithin p0 (0) (2)) (fun o1 => if o1 = 0 then (some ((-2), vdyfp, vdyac, vdyba, vdywy, vdyse, vdysp, vdyhe, vdyhw, vrdaw, vrdac, vrdsp, vrdwo, vrdot, vrwst, vrwln, vwd, vkd, vrd, vpd, vbd, vid, vwcd, vld, vgd, vod, vscd)) else (ob (f_X1_readAll vdyfp vdyba vrdac vrdsp vrdwo vrdot vwd vkd vrd vpd vbd vid vld vgd vod vfg vw vk vr vp vb vi vwc vl vg vo vsc vsgc) (fun o3 => if o3.1 = 0 then (if p0 = 2 then (some (o3.2.2.2.2.2.2.2.1, o3.2.1, o3.2.2.1, o3.2.2.2.1, o3.2.2.2.2.1, o3.2.2.2.2.2.1, o3.2.2.2.2.2.2.1, o3.2.2.2.2.2.2.2.1, o3.2.2.2.2.2.2.2.2.1, o3.2.2.2.2.2.2.2.2.2.1, o3.2.2.2.2.2.2.2.2.2.2.1, o3.2.2.2.2.2.2.2.2.2.2.2.1, o3.2.2.2.2.2.2.2.2.2.2.2.2.1, o3.2.2.2.2.2.2.2.2.2.2.2.2.2.1, o3.2.2.2.2.2.2.2.2.2.2.2.2.2.2.1, o3.2.2.2.2.2.2.2.2.2.2.2.2.2.2.2.1, o3.2.2.2.2.2.2.2.2.2.2.2.2.2.2.2.2.1, o3.2.2.2.2.2.2.2.2.2.2.2.2.2.2.2.2.2.1, o3.2.2.2.2.2.2.2.2.2.2.2.2.2.2.2.2.2.2.1, o3.2.2.2.2.2.2.2.2.2.2.2.2.2.2.2.2.2.2.2.1, o3.2.2.2.2.2.2.2.2.2.2.2.2.2.2.2.2.2.2.2.2.1, o3.2.2.2.2.2.2.2.2.2.2.2.2.2.2.2.2.2.2.2.2.2.1, o3.2.2.2.2.2.2.2.2.2.2.2.2.2.2.2.2.2.2.2.2.2.2.1, o3.2.2.2.2.2.2.2.2.2.2.2.2.2.2.2.2.2.2.2.2.2.2.2.1, o3.2.2.2.2.2.2.2.2.2.2.2.2.2.2.2.2.2.2.2.2.2.2.2.2.1, o3.2.2.2.2.2.2.2.2.2.2.2.2.2.2.2.2.2.2.2.2.2.2.2.2.2.1, o3.2.2.2.2.2.2.2.2.2.2.2.2.2.2.2.2.2.2.2.2.2.2.2.2.2.2)) else (if p0 = 0 then (some (o3.2.2.2.2.2.2.1, o3.2.1, o3.2.2.1, o3.2.2.2.1, o3.2.2.2.2.1, o3.2.2.2.2.2.1, o3.2.2.2.2.2.2.1, o3.2.2.2.2.2.2.2.1, o3.2.2.2.2.2.2.2.2.1, o3.2.2.2.2.2.2.2.2.2.1, o3.2.2.2.2.2.2.2.2.2.2.1, o3.2.2.2.2.2.2.2.2.2.2.2.1, o3.2.2.2.2.2.2.2.2.2.2.2.2.1, o3.2.2.2.2.2.2.2.2.2.2.2.2.2.1, o3.2.2.2.2.2.2.2.2.2.2.2.2.2.2.1, o3.2.2.2.2.2.2.2.2.2.2.2.2.2.2.2.1, o3.2.2.2.2.2.2.2.2.2.2.2.2.2.2.2.2.1, o3.2.2.2.2.2.2.2.2.2.2.2.2.2.2.2.2.2.1, o3.2.2.2.2.2.2.2.2.2.2.2.2.2.2.2.2.2.2.1, o3.2.2.2.2.2.2.2.2.2.2.2.2.2.2.2.2.2.2.2.1, o3.2.2.2.2.2.2.2.2.2.2.2.2.2.2.2.2.2.2.2.2.1, o3.2.2.2.2.2.2.2.2.2.2.2.2.2.2.2.2.2.2.2.2.2.1, o3.2.2.2.2.2.2.2.2.2.2.2.2.2.2.2.2.2.2.2.2.2.2.1, o3.2.2.2.2.2.2.2.2.2.2.2.2.2.2.2.2.2.2.2.2.2.2.2.1, o3.2.2.2.2.2.2.2.2.2.2.2.2.2.2.2.2.2.2.2.2.2.2.2.2.1, o3.2.2.2.2.2.2.2.2.2.2.2.2.2.2.2.2.2.2.2.2.2.2.2.2.2.1, o3.2.2.2.2.2.2.2.2.2.2.2.2.2.2.2.2.2.2.2.2.2.2.2.2.2.2)) else (some (o3.2.2.2.2.2.2.2.2.2.2.2.2.2.2.2.1, o3.2.1, o3.2.2.1, o3.2.2.2.1, o3.2.2.2.2.1, o3.2.2.2.2.2.1, o3.2.2.2.2.2.2.1, o3.2.2.2.2.2.2.2.1, o3.2.2.2.2.2.2.2.2.1, o3.2.2.2.2.2.2.2.2.2.1, o3.2.2.2.2.2.2.2.2.2.2.1, o3.2.2.2.2.2.2.2.2.2.2.2.1, o3.2.2.2.2.2.2.2.2.2.2.2.2.1, o3.2.2.2.2.2.2.2.2.2.2.2.2.2.1, o3.2.2.2.2.2.2.2.2.2.2.2.2.2.2.1, o3.2.2.2.2.2.2.2.2.2.2.2.2.2.2.2.1, o3.2.2.2.2.2.2.2.2.2.2.2.2.2.2.2.2.1, o3.2.2.2.2.2.2.2.2.2.2.2.2.2.2.2.2.2.1, o3.2.2.2.2.2.2.2.2.2.2.2.2.2.2.2.2.2.2.1, o3.2.2.2.2.2.2.2.2.2.2.2.2.2.2.2.2.2.2.2.1, o3.2.2.2.2.2.2.2.2.2.2.2.2.2.2.2.2.2.2.2.2.1, o3.2.2.2.2.2.2.2.2.2.2.2.2.2.2.2.2.2.2.2.2.2.1, o3.2.2.2.2.2.2.2.2.2.2.2.2.2.2.2.2.2.2.2.2.2.2.1, o3.2.2.2.2.2.2.2.2.2.2.2.2.2.2.2.2.2.2.2.2.2.2.2.1, o3.2.2.2.2.2.2.2.2.2.2.2.2.2.2.2.2.2.2.2.2.2.2.2.2.1, o3.2.2.2.2.2.2.2.2.2.2.2.2.2.2.2.2.2.2.2.2.2.2.2.2.2.1, o3.2.2.2.2.2.2.2.2.2.2.2.2.2.2.2.2.2.2.2.2.2.2.2.2.2.2)))) else (some (o3.1, o3.2.1, o3.2.2.1, o3.2.2.2.1, o3.2.2.2.2.1, o3.2.2.2.2.2.1, o3.2.2.2.2.2.2.1, o3.2.2.2.2.2.2.2.1, o3.2.2.2.2.2.2.2.2.1, o3.2.2.2.2.2.2.2.2.2.1, o3.2.2.2.2.2.2.2.2.2.2.1, o3.2.2.2.2.2.2.2.2.2.2.2.1, o3.2.2.2.2.2.2.2.2.2.2.2.2.1, o3.2.2.2.2.2.2.2.2.2.2.2.2.2.1, o3.2.2.2.2.2.2.2.2.2.2.2.2.2.2.1, o3.2.2.2.2.2.2.2.2.2.2.2.2.2.2.2.1, o3.2.2.2.2.2.2.2.2.2.2.2.2.2.2.2.2.1, o3.2.2.2.2.2.2.2.2.2.2.2.2.2.2.2.2.2.1, o3.2.2.2.2.2.2.2.2.2.2.2.2.2.2.2.2.2.2.1, o3.2.2.2.2.2.2.2.2.2.2.2.2.2.2.2.2.2.2.2.1, o3.2.2.2.2.2.2.2.2.2.2.2.2.2.2.2.2.2.2.2.2.1, o3.2.2.2.2.2.2.2.2.2.2.2.2.2.2.2.2.2.2.2.2.2.1, o3.2.2.2.2.2.2.2.2.2.2.2.2.2.2.2.2.2.2.2.2.2.2.1, o3.2.2.2.2.2.2.2.2.2.2.2.2.2.2.2.2.2.2.2.2.2.2.2.1, o3.2.2.2.2.2.2.2.2.2.2.2.2.2.2.2.2.2.2.2.2.2.2.2.2.1, o3.2.2.2.2.2.2.2.2.2.2.2.2.2.2.2.2.2.2.2.2.2.2.2.2.2.1, o3.2.2.2.2.2.2.2.2.2.2.2.2.2.2.2.2.2.2.2.2.2.2.2.2.2.2)))))
theorem inX4_said_X1 : ∀ w ∈ wsX10, w ∈ wsX4_said := fun w h => List.mem_cons_of_mem _ (List.mem_append_left _ (List.mem_append_left _ (List.mem_append_left _ (List.mem_append_right _ h))))
theorem inX4_said_X2 : ∀ w ∈ wsX20, w ∈ wsX4_said := fun w h => List.mem_cons_of_mem _ (List.mem_append_left _ (List.mem_append_left _ (List.mem_append_right _ h)))
theorem inX4_said_X4 : ∀ w ∈ wsX40, w ∈ wsX4_said := fun w h => List.mem_cons_of_mem _ (List.mem_append_left _ (List.mem_append_left _ (List.mem_append_left _ (List.mem_append_left _ (List.mem_append_right _ h)))))
theorem yd_X4_said : yX4_said.cls ≠ "java/lang/invoke/MethodHandle" ∧ yX4_said.cls ≠ "java/lang/invoke/VarHandle" ∧ (parseMethodDescriptor yX4_said.desc).map (fun d => d.parameters.length) = some 1 := by decide +kernel
abbrev rmX4_said : Room := { frames := 6, cells := 0, slots := 0, locals := 138 }
set_option maxHeartbeats 4000000 in
set_option maxRecDepth 100000 in
theorem k_X4_said (l : Launch) (D : va_G) (K : Nat → ClassId) (ax : Nat) (ad : Nat) (ar : Nat) (aw : Nat) (qd : Nat → Nat) (aig : Nat) (q : Nat → Nat) (zyearShop : Nat) (zimages : Nat) (zmeans : Nat) (vsgc : Int32) (vdyfp : Int32) (vdyac : Int32) (vdyba : Int32) (vdywy : Int32) (vdyse : Int32) (vdysp : Int32) (vdyhe : Int32) (vdyhw : Int32) (vrdaw : Int32) (vrdac : Int32) (vrdsp : Int32) (vrdwo : Int32) (vrdot : Int32) (vrwst : Int32) (vrwln : Int32) (vwd : Nat → Int32) (vkd : Nat → Int32) (vrd : Nat → Int32) (vpd : Nat → Int32) (vbd : Nat → Int32) (vid : Nat → Int32) (vwcd : Int32) (vld : Nat → Int32) (vgd : Nat → Int32) (vod : Nat → Int32) (vscd : Int32) (vfg : Nat → Int32) (vw : Nat → Int32) (vk : Nat → Int32) (vr : Nat → Int32) (vp : Nat → Int32) (vb : Nat → Int32) (vi : Nat → Int32) (vwc : Int32) (vl : Nat → Int32) (vg : Nat → Int32) (vo : Nat → Int32) (vsc : Int32) (p0 : Int32) (out : Int32 × Int32 × Int32 × Int32 × Int32 × Int32 × Int32 × Int32 × Int32 × Int32 × Int32 × Int32 × Int32 × Int32 × Int32 × Int32 × (Nat → Int32) × (Nat → Int32) × (Nat → Int32) × (Nat → Int32) × (Nat → Int32) × (Nat → Int32) × Int32 × (Nat → Int32) × (Nat → Int32) × (Nat → Int32) × Int32) (hf : f_X4_said vsgc vdyfp vdyac vdyba vdywy vdyse vdysp vdyhe vdyhw vrdaw vrdac vrdsp vrdwo vrdot vrwst vrwln vwd vkd vrd vpd vbd vid vwcd vld vgd vod vscd vfg vw vk vr vp vb vi vwc vl vg vo vsc p0 = some out) : kI l D K .int yX4_said wsX4_said rmX4_said [.ref ax, .int p0] ((xoW ax (q 0) zyearShop zimages aig ad zmeans vsgc) ++ (dyW ad (qd 0) ar aw vdyfp vdyac vdyba vdywy vdyse vdysp vdyhe vdyhw) ++ (rdW ar vrdaw vrdac vrdsp vrdwo vrdot) ++ (rwW aw vrwst vrwln) ++ (shW K qd vwd vkd vrd vpd vbd vid vwcd vld vgd vod vscd) ++ (iaW K aig 60 vfg) ++ (shW K q vw vk vr vp vb vi vwc vl vg vo vsc)) out.1 ((xoW ax (q 0) zyearShop zimages aig ad zmeans vsgc) ++ (dyW ad (qd 0) ar aw out.2.1 out.2.2.1 out.2.2.2.1 out.2.2.2.2.1 out.2.2.2.2.2.1 out.2.2.2.2.2.2.1 out.2.2.2.2.2.2.2.1 out.2.2.2.2.2.2.2.2.1) ++ (rdW ar out.2.2.2.2.2.2.2.2.2.1 out.2.2.2.2.2.2.2.2.2.2.1 out.2.2.2.2.2.2.2.2.2.2.2.1 out.2.2.2.2.2.2.2.2.2.2.2.2.1 out.2.2.2.2.2.2.2.2.2.2.2.2.2.1) ++ (rwW aw out.2.2.2.2.2.2.2.2.2.2.2.2.2.2.1 out.2.2.2.2.2.2.2.2.2.2.2.2.2.2.2.1) ++ (shW K qd out.2.2.2.2.2.2.2.2.2.2.2.2.2.2.2.2.1 out.2.2.2.2.2.2.2.2.2.2.2.2.2.2.2.2.2.1 out.2.2.2.2.2.2.2.2.2.2.2.2.2.2.2.2.2.2.1 out.2.2.2.2.2.2.2.2.2.2.2.2.2.2.2.2.2.2.2.1 out.2.2.2.2.2.2.2.2.2.2.2.2.2.2.2.2.2.2.2.2.1 out.2.2.2.2.2.2.2.2.2.2.2.2.2.2.2.2.2.2.2.2.2.1 out.2.2.2.2.2.2.2.2.2.2.2.2.2.2.2.2.2.2.2.2.2.2.1 out.2.2.2.2.2.2.2.2.2.2.2.2.2.2.2.2.2.2.2.2.2.2.2.1 out.2.2.2.2.2.2.2.2.2.2.2.2.2.2.2.2.2.2.2.2.2.2.2.2.1 out.2.2.2.2.2.2.2.2.2.2.2.2.2.2.2.2.2.2.2.2.2.2.2.2.2.1 out.2.2.2.2.2.2.2.2.2.2.2.2.2.2.2.2.2.2.2.2.2.2.2.2.2.2) ++ (iaW K aig 60 vfg) ++ (shW K q vw vk vr vp vb vi vwc vl vg vo vsc)) := by
  refine kI.of (cc := cX4_said) (maxL := 3) (by decide) rfl (Nat.le_of_ble_eq_true rfl) ?_
  intro p e s m args below meth c A H0 Q ls hx hb hml hown hts hK hN hA hP hD hS hl hret
  have hown : s.vm.findClass RX4 = some m.cls := hown
  have hl : lv_has ls 3 [(0, .ref ax), (1, .int p0)] := hl
  generalize hH : H0 = H at hP ⊢
  have hS : va_S A H0 H [] := by rw [← hH]; exact hS
  clear hH
  unfold f_X4_said at hf
  refine lv_iload_n hx hb dX4_said_0 rfl (lv_at hl 1 rfl) ?_
  refine lv_iconst (v := 0) hx hb dX4_said_1 (by decide) ?_
  refine lv_iconst (v := 2) hx hb dX4_said_2 (by decide) ?_
  obtain ⟨o1, ho1, hf⟩ := bd_el hf
  refine kc0_i (D := D) (va_runS (As := [.int p0, .int 0, .int 2]) (rest := []) ⟨hx, hb, hml, hown, hts⟩ ((k_X4_isWithin l D K p0 (0) (2) o1 ho1) H.size) (va_cwS 3 hts gX4_said_X4_isWithin rfl rfl rfl yd_X4_isWithin ⟨Nat.le_of_ble_eq_true rfl, Nat.le_of_ble_eq_true rfl⟩) (kPreS va_P_nil (va_D_nil (A := fun _ => True)) hK hN) rfl rfl hl.1 rfl (lv_room (Nat.le_of_ble_eq_true rfl)) dX4_said_3 ⟨Nat.le_of_ble_eq_true rfl, Nat.le_of_ble_eq_true rfl⟩) hP hS hA (fun hzo1 H locs hP hS => ?_)
  refine lv_if_ne (tgt := 12) hx hb dX4_said_6 (by decide) (fun c2 => ?_) (fun c2 => ?_)
  · rw [if_neg c2] at hf
    refine lv_aload_n hx hb dX4_said_12 rfl (lv_at hl 0 rfl) ?_
    refine va_get (D := D) (ci := 4) (v := .ref ad) (C := RX4) (T := TX4) (N := 7) hx hb hts inX4_said_X4 hown hK hP 0 rfl rfl 5 (by decide) (hts (.fieldLink RX4 34 "WordScales" "days" "LWordScales$Days;") (List.mem_of_getElem? (i := 1) rfl)) (fun _ h9 => h9) rfl dX4_said_13 ?_
    refine lv_aload_n hx hb dX4_said_16 rfl (lv_at hl 0 rfl) ?_
    refine va_get (D := D) (ci := 4) (v := .ref aig) (C := RX4) (T := TX4) (N := 7) hx hb hts inX4_said_X4 hown hK hP 0 rfl rfl 3 (by decide) (hts (.fieldLink RX4 23 "WordScales" "signs" "[I") (List.mem_of_getElem? (i := 2) rfl)) (fun _ h9 => h9) rfl dX4_said_17 ?_
    refine lv_aload_n hx hb dX4_said_20 rfl (lv_at hl 0 rfl) ?_
    refine va_get (D := D) (ci := 4) (v := .int vsgc) (C := RX4) (T := TX4) (N := 7) hx hb hts inX4_said_X4 hown hK hP 0 rfl rfl 4 (by decide) (hts (.fieldLink RX4 27 "WordScales" "signCount" "I") (List.mem_of_getElem? (i := 3) rfl)) (fun _ h9 => h9) rfl dX4_said_21 ?_
    refine lv_aload_n hx hb dX4_said_24 rfl (lv_at hl 0 rfl) ?_
    refine va_get (D := D) (ci := 4) (v := .ref (q 0)) (C := RX4) (T := TX4) (N := 7) hx hb hts inX4_said_X4 hown hK hP 0 rfl rfl 0 (by decide) (hts (.fieldLink RX4 10 "WordScales" "shop" "LWordScales$Shop;") (List.mem_of_getElem? (i := 4) rfl)) (fun _ h9 => h9) rfl dX4_said_25 ?_
    obtain ⟨o3, ho3, hf⟩ := ob_el hf
    have hPc : va_P D vwCl ((dyW ad (qd 0) ar aw vdyfp vdyac vdyba vdywy vdyse vdysp vdyhe vdyhw) ++ (rdW ar vrdaw vrdac vrdsp vrdwo vrdot) ++ (rwW aw vrwst vrwln) ++ (shW K qd vwd vkd vrd vpd vbd vid vwcd vld vgd vod vscd) ++ (iaW K aig 60 vfg) ++ (shW K q vw vk vr vp vb vi vwc vl vg vo vsc)) H := hP.sub [1, 2, 3, 4, 5, 6, 7, 8, 9, 10, 11, 12, 13, 14, 15, 16, 17, 18, 19, 20, 21, 22, 23, 24] rfl
    have hDc : va_D A ((dyW ad (qd 0) ar aw vdyfp vdyac vdyba vdywy vdyse vdysp vdyhe vdyhw) ++ (rdW ar vrdaw vrdac vrdsp vrdwo vrdot) ++ (rwW aw vrwst vrwln) ++ (shW K qd vwd vkd vrd vpd vbd vid vwcd vld vgd vod vscd) ++ (iaW K aig 60 vfg) ++ (shW K q vw vk vr vp vb vi vwc vl vg vo vsc)) := hD.sub [1, 2, 3, 4, 5, 6, 7, 8, 9, 10, 11, 12, 13, 14, 15, 16, 17, 18, 19, 20, 21, 22, 23, 24] (by decide) rfl
    refine kcg_i (D := D) (wc := ((dyW ad (qd 0) ar aw vdyfp vdyac vdyba vdywy vdyse vdysp vdyhe vdyhw) ++ (rdW ar vrdaw vrdac vrdsp vrdwo vrdot) ++ (rwW aw vrwst vrwln) ++ (shW K qd vwd vkd vrd vpd vbd vid vwcd vld vgd vod vscd) ++ (iaW K aig 60 vfg) ++ (shW K q vw vk vr vp vb vi vwc vl vg vo vsc))) (wc' := ((dyW ad (qd 0) ar aw o3.2.1 o3.2.2.1 o3.2.2.2.1 o3.2.2.2.2.1 o3.2.2.2.2.2.1 o3.2.2.2.2.2.2.1 o3.2.2.2.2.2.2.2.1 o3.2.2.2.2.2.2.2.2.1) ++ (rdW ar o3.2.2.2.2.2.2.2.2.2.1 o3.2.2.2.2.2.2.2.2.2.2.1 o3.2.2.2.2.2.2.2.2.2.2.2.1 o3.2.2.2.2.2.2.2.2.2.2.2.2.1 o3.2.2.2.2.2.2.2.2.2.2.2.2.2.1) ++ (rwW aw o3.2.2.2.2.2.2.2.2.2.2.2.2.2.2.1 o3.2.2.2.2.2.2.2.2.2.2.2.2.2.2.2.1) ++ (shW K qd o3.2.2.2.2.2.2.2.2.2.2.2.2.2.2.2.2.1 o3.2.2.2.2.2.2.2.2.2.2.2.2.2.2.2.2.2.1 o3.2.2.2.2.2.2.2.2.2.2.2.2.2.2.2.2.2.2.1 o3.2.2.2.2.2.2.2.2.2.2.2.2.2.2.2.2.2.2.2.1 o3.2.2.2.2.2.2.2.2.2.2.2.2.2.2.2.2.2.2.2.2.1 o3.2.2.2.2.2.2.2.2.2.2.2.2.2.2.2.2.2.2.2.2.2.1 o3.2.2.2.2.2.2.2.2.2.2.2.2.2.2.2.2.2.2.2.2.2.2.1 o3.2.2.2.2.2.2.2.2.2.2.2.2.2.2.2.2.2.2.2.2.2.2.2.1 o3.2.2.2.2.2.2.2.2.2.2.2.2.2.2.2.2.2.2.2.2.2.2.2.2.1 o3.2.2.2.2.2.2.2.2.2.2.2.2.2.2.2.2.2.2.2.2.2.2.2.2.2.1 o3.2.2.2.2.2.2.2.2.2.2.2.2.2.2.2.2.2.2.2.2.2.2.2.2.2.2) ++ (iaW K aig 60 vfg) ++ (shW K q vw vk vr vp vb vi vwc vl vg vo vsc))) (wr := [0].filterMap (fun i => (((xoW ax (q 0) zyearShop zimages aig ad zmeans vsgc) ++ (dyW ad (qd 0) ar aw vdyfp vdyac vdyba vdywy vdyse vdysp vdyhe vdyhw) ++ (rdW ar vrdaw vrdac vrdsp vrdwo vrdot) ++ (rwW aw vrwst vrwln) ++ (shW K qd vwd vkd vrd vpd vbd vid vwcd vld vgd vod vscd) ++ (iaW K aig 60 vfg) ++ (shW K q vw vk vr vp vb vi vwc vl vg vo vsc)) : va_W)[i]?)) (ws2 := ((xoW ax (q 0) zyearShop zimages aig ad zmeans vsgc) ++ (dyW ad (qd 0) ar aw o3.2.1 o3.2.2.1 o3.2.2.2.1 o3.2.2.2.2.1 o3.2.2.2.2.2.1 o3.2.2.2.2.2.2.1 o3.2.2.2.2.2.2.2.1 o3.2.2.2.2.2.2.2.2.1) ++ (rdW ar o3.2.2.2.2.2.2.2.2.2.1 o3.2.2.2.2.2.2.2.2.2.2.1 o3.2.2.2.2.2.2.2.2.2.2.2.1 o3.2.2.2.2.2.2.2.2.2.2.2.2.1 o3.2.2.2.2.2.2.2.2.2.2.2.2.2.1) ++ (rwW aw o3.2.2.2.2.2.2.2.2.2.2.2.2.2.2.1 o3.2.2.2.2.2.2.2.2.2.2.2.2.2.2.2.1) ++ (shW K qd o3.2.2.2.2.2.2.2.2.2.2.2.2.2.2.2.2.1 o3.2.2.2.2.2.2.2.2.2.2.2.2.2.2.2.2.2.1 o3.2.2.2.2.2.2.2.2.2.2.2.2.2.2.2.2.2.2.1 o3.2.2.2.2.2.2.2.2.2.2.2.2.2.2.2.2.2.2.2.1 o3.2.2.2.2.2.2.2.2.2.2.2.2.2.2.2.2.2.2.2.2.1 o3.2.2.2.2.2.2.2.2.2.2.2.2.2.2.2.2.2.2.2.2.2.1 o3.2.2.2.2.2.2.2.2.2.2.2.2.2.2.2.2.2.2.2.2.2.2.1 o3.2.2.2.2.2.2.2.2.2.2.2.2.2.2.2.2.2.2.2.2.2.2.2.1 o3.2.2.2.2.2.2.2.2.2.2.2.2.2.2.2.2.2.2.2.2.2.2.2.2.1 o3.2.2.2.2.2.2.2.2.2.2.2.2.2.2.2.2.2.2.2.2.2.2.2.2.2.1 o3.2.2.2.2.2.2.2.2.2.2.2.2.2.2.2.2.2.2.2.2.2.2.2.2.2.2) ++ (iaW K aig 60 vfg) ++ (shW K q vw vk vr vp vb vi vwc vl vg vo vsc))) (va_runVN (As := [.ref aig, .int vsgc, .ref (q 0)]) (rest := []) ⟨hx, hb, hml, hown, hts⟩ ((k_X1_readAll l D K ad ar aw qd aig q vdyfp vdyac vdyba vdywy vdyse vdysp vdyhe vdyhw vrdaw vrdac vrdsp vrdwo vrdot vrwst vrwln vwd vkd vrd vpd vbd vid vwcd vld vgd vod vscd vfg vw vk vr vp vb vi vwc vl vg vo vsc vsgc o3 ho3) H.size) ⟨va_cnB 3 hts gX4_said_X1_readAll_n85 rfl rfl rfl (hN _ (List.mem_of_getElem? (i := 36) rfl)) (hts (.initialized RX1) (List.mem_of_getElem? (i := 10) rfl)) yd_X1_readAll ⟨Nat.le_of_ble_eq_true rfl, Nat.le_of_ble_eq_true rfl⟩, (hts (.instanceMethod yX1_readAll) (List.mem_of_getElem? (i := 9) rfl)), (hts (.selects RX1 yX1_readAll yX1_readAll) (List.mem_of_getElem? (i := 11) rfl))⟩ (kPreV (ci := 1) (q0 := 1) hP rfl rfl hPc hDc hK hN) rfl rfl hl.1 rfl (lv_room (Nat.le_of_ble_eq_true rfl)) dX4_said_28 ⟨Nat.le_of_ble_eq_true rfl, Nat.le_of_ble_eq_true rfl⟩) hP hD hS hA [1, 2, 3, 4, 5, 6, 7, 8, 9, 10, 11, 12, 13, 14, 15, 16, 17, 18, 19, 20, 21, 22, 23, 24] [0] [0, 1, 2, 3, 4, 5, 6, 7, 8, 9, 10, 11, 12, 13, 14, 15, 16, 17, 18, 19, 20, 21, 22, 23, 24] rfl rfl (by decide) (by decide) rfl (by decide) (fun hzo3 H locs hP hD hS => ?_)
    refine lv_istore_n (lv' := [(2, .int o3.1), (0, .ref ax), (1, .int p0)]) hx hb dX4_said_31 rfl hl (by decide) rfl (fun ls hl => ?_)
    refine lv_iload_n hx hb dX4_said_32 rfl (lv_at hl 0 rfl) ?_
    refine lv_if_eq (tgt := 38) hx hb dX4_said_33 (by decide) (fun c4 => ?_) (fun c4 => ?_)
    · rw [if_pos c4] at hf
      refine lv_iload_n hx hb dX4_said_38 rfl (lv_at hl 2 rfl) ?_
      refine lv_iconst (v := 2) hx hb dX4_said_39 (by decide) ?_
      refine lv_icmp_ne (tgt := 51) hx hb dX4_said_40 (by decide) (fun c5 => ?_) (fun c5 => ?_)
      · rw [if_neg c5] at hf
        refine lv_iload_n hx hb dX4_said_51 rfl (lv_at hl 2 rfl) ?_
        refine lv_if_ne (tgt := 65) hx hb dX4_said_52 (by decide) (fun c6 => ?_) (fun c6 => ?_)
        · rw [if_neg c6] at hf
          refine lv_aload_n hx hb dX4_said_65 rfl (lv_at hl 1 rfl) ?_
          refine va_get (D := D) (ci := 4) (v := .ref ad) (C := RX4) (T := TX4) (N := 7) hx hb hts inX4_said_X4 hown hK hP 0 rfl rfl 5 (by decide) (hts (.fieldLink RX4 34 "WordScales" "days" "LWordScales$Days;") (List.mem_of_getElem? (i := 1) rfl)) (fun _ h9 => h9) rfl dX4_said_66 ?_
          refine va_getN (D := D) (host := "WordScales") (ci := 1) (v := .ref aw) (C := RX1) (T := TX1) (N := 11) hx hb hts inX4_said_X1 hown hK hP 1 rfl rfl 2 (by decide) (va_Nw.use rfl (hN _ (List.mem_of_getElem? (i := 19) rfl))) (fun _ h9 => h9) rfl dX4_said_69 ?_
          refine va_getN (D := D) (host := "WordScales") (ci := 2) (v := .int o3.2.2.2.2.2.2.2.2.2.2.2.2.2.2.2.1) (C := RX2) (T := TX2) (N := 2) hx hb hts inX4_said_X2 hown hK hP 3 rfl rfl 1 (by decide) (va_Nw.use rfl (hN _ (List.mem_of_getElem? (i := 17) rfl))) (fun _ h9 => h9) rfl dX4_said_72 ?_
          obtain rfl := Option.some.inj hf
          exact hret rfl rfl rfl hP hD hS dX4_said_75
        · rw [if_pos c6] at hf
          refine lv_aload_n hx hb dX4_said_55 rfl (lv_at hl 1 rfl) ?_
          refine va_get (D := D) (ci := 4) (v := .ref ad) (C := RX4) (T := TX4) (N := 7) hx hb hts inX4_said_X4 hown hK hP 0 rfl rfl 5 (by decide) (hts (.fieldLink RX4 34 "WordScales" "days" "LWordScales$Days;") (List.mem_of_getElem? (i := 1) rfl)) (fun _ h9 => h9) rfl dX4_said_56 ?_
          refine va_getN (D := D) (host := "WordScales") (ci := 1) (v := .int o3.2.2.2.2.2.2.1) (C := RX1) (T := TX1) (N := 11) hx hb hts inX4_said_X1 hown hK hP 1 rfl rfl 8 (by decide) (va_Nw.use rfl (hN _ (List.mem_of_getElem? (i := 25) rfl))) (fun _ h9 => h9) rfl dX4_said_59 ?_
          refine lv_goto (tgt := 75) hx hb dX4_said_62 (by decide) ?_
          obtain rfl := Option.some.inj hf
          exact hret rfl rfl rfl hP hD hS dX4_said_75
      · rw [if_pos c5] at hf
        refine lv_aload_n hx hb dX4_said_43 rfl (lv_at hl 1 rfl) ?_
        refine va_get (D := D) (ci := 4) (v := .ref ad) (C := RX4) (T := TX4) (N := 7) hx hb hts inX4_said_X4 hown hK hP 0 rfl rfl 5 (by decide) (hts (.fieldLink RX4 34 "WordScales" "days" "LWordScales$Days;") (List.mem_of_getElem? (i := 1) rfl)) (fun _ h9 => h9) rfl dX4_said_44 ?_
        refine va_getN (D := D) (host := "WordScales") (ci := 1) (v := .int o3.2.2.2.2.2.2.2.1) (C := RX1) (T := TX1) (N := 11) hx hb hts inX4_said_X1 hown hK hP 1 rfl rfl 9 (by decide) (va_Nw.use rfl (hN _ (List.mem_of_getElem? (i := 26) rfl))) (fun _ h9 => h9) rfl dX4_said_47 ?_
        obtain rfl := Option.some.inj hf
        exact hret rfl rfl rfl hP hD hS dX4_said_50
    · rw [if_neg c4] at hf
      refine lv_iload_n hx hb dX4_said_36 rfl (lv_at hl 0 rfl) ?_
      obtain rfl := Option.some.inj hf
      exact hret rfl rfl rfl hP hD hS dX4_said_37
  · rw [if_pos c2] at hf
    refine lv_bipush (v := (-2)) hx hb dX4_said_9 (by decide) ?_
    obtain rfl := Option.some.inj hf
    exact hret rfl rfl rfl hP hD hS dX4_said_11
def f_X4_done (vsgc : Int32) (vdyfp : Int32) (vdyba : Int32) (vrdac : Int32) (vrdsp : Int32) (vrdwo : Int32) (vrdot : Int32) (vwd : Nat → Int32) (vkd : Nat → Int32) (vrd : Nat → Int32) (vpd : Nat → Int32) (vbd : Nat → Int32) (vid : Nat → Int32) (vld : Nat → Int32) (vgd : Nat → Int32) (vod : Nat → Int32) (vfg : Nat → Int32) (vw : Nat → Int32) (vk : Nat → Int32) (vr : Nat → Int32) (vp : Nat → Int32) (vb : Nat → Int32) (vi : Nat → Int32) (vwc : Int32) (vl : Nat → Int32) (vg : Nat → Int32) (vo : Nat → Int32) (vsc : Int32) : Option (Int32 × Int32 × Int32 × Int32 × Int32 × Int32 × Int32 × Int32 × Int32 × Int32 × Int32 × Int32 × Int32 × Int32 × Int32 × Int32 × Int32 × (Nat → Int32) × (Nat → Int32) × (Nat → Int32) × (Nat → Int32) × (Nat → Int32) × (Nat → Int32) × Int32 × (Nat → Int32) × (Nat → Int32) × (Nat → Int32) × Int32 × (Nat → Int32) × (Nat → Int32) × (Nat → Int32) × (Nat → Int32) × (Nat → Int32) × (Nat → Int32) × Int32 × (Nat → Int32) × (Nat → Int32) × (Nat → Int32) × Int32) := ob (f_X1_readAll vdyfp vdyba vrdac vrdsp vrdwo vrdot vwd vkd vrd vpd vbd vid vld vgd vod vfg vw vk vr vp vb vi vwc vl vg vo vsc vsgc) (fun o1 => if o1.1 = 0 then (ob (f_X3_copyFrom vw vk vr vp vb vi vl vg vo o1.2.2.2.2.2.2.2.2.2.2.2.2.2.2.2.2.1 o1.2.2.2.2.2.2.2.2.2.2.2.2.2.2.2.2.2.1 o1.2.2.2.2.2.2.2.2.2.2.2.2.2.2.2.2.2.2.1 o1.2.2.2.2.2.2.2.2.2.2.2.2.2.2.2.2.2.2.2.1 o1.2.2.2.2.2.2.2.2.2.2.2.2.2.2.2.2.2.2.2.2.1 o1.2.2.2.2.2.2.2.2.2.2.2.2.2.2.2.2.2.2.2.2.2.1 o1.2.2.2.2.2.2.2.2.2.2.2.2.2.2.2.2.2.2.2.2.2.2.1 o1.2.2.2.2.2.2.2.2.2.2.2.2.2.2.2.2.2.2.2.2.2.2.2.1 o1.2.2.2.2.2.2.2.2.2.2.2.2.2.2.2.2.2.2.2.2.2.2.2.2.1 o1.2.2.2.2.2.2.2.2.2.2.2.2.2.2.2.2.2.2.2.2.2.2.2.2.2.1 o1.2.2.2.2.2.2.2.2.2.2.2.2.2.2.2.2.2.2.2.2.2.2.2.2.2.2) (fun o3 => some (o1.2.2.1, 0, o1.2.1, o1.2.2.1, o1.2.2.2.1, o1.2.2.2.2.1, o1.2.2.2.2.2.1, o1.2.2.2.2.2.2.1, o1.2.2.2.2.2.2.2.1, o1.2.2.2.2.2.2.2.2.1, o1.2.2.2.2.2.2.2.2.2.1, o1.2.2.2.2.2.2.2.2.2.2.1, o1.2.2.2.2.2.2.2.2.2.2.2.1, o1.2.2.2.2.2.2.2.2.2.2.2.2.1, o1.2.2.2.2.2.2.2.2.2.2.2.2.2.1, o1.2.2.2.2.2.2.2.2.2.2.2.2.2.2.1, o1.2.2.2.2.2.2.2.2.2.2.2.2.2.2.2.1, o1.2.2.2.2.2.2.2.2.2.2.2.2.2.2.2.2.1, o1.2.2.2.2.2.2.2.2.2.2.2.2.2.2.2.2.2.1, o1.2.2.2.2.2.2.2.2.2.2.2.2.2.2.2.2.2.2.1, o1.2.2.2.2.2.2.2.2.2.2.2.2.2.2.2.2.2.2.2.1, o1.2.2.2.2.2.2.2.2.2.2.2.2.2.2.2.2.2.2.2.2.1, o1.2.2.2.2.2.2.2.2.2.2.2.2.2.2.2.2.2.2.2.2.2.1, o1.2.2.2.2.2.2.2.2.2.2.2.2.2.2.2.2.2.2.2.2.2.2.1, o1.2.2.2.2.2.2.2.2.2.2.2.2.2.2.2.2.2.2.2.2.2.2.2.1, o1.2.2.2.2.2.2.2.2.2.2.2.2.2.2.2.2.2.2.2.2.2.2.2.2.1, o1.2.2.2.2.2.2.2.2.2.2.2.2.2.2.2.2.2.2.2.2.2.2.2.2.2.1, o1.2.2.2.2.2.2.2.2.2.2.2.2.2.2.2.2.2.2.2.2.2.2.2.2.2.2, o3.1, o3.2.1, o3.2.2.1, o3.2.2.2.1, o3.2.2.2.2.1, o3.2.2.2.2.2.1, o3.2.2.2.2.2.2.1, o3.2.2.2.2.2.2.2.1, o3.2.2.2.2.2.2.2.2.1, o3.2.2.2.2.2.2.2.2.2.1, o3.2.2.2.2.2.2.2.2.2.2))) else (some (o1.1, vsgc, o1.2.1, o1.2.2.1, o1.2.2.2.1, o1.2.2.2.2.1, o1.2.2.2.2.2.1, o1.2.2.2.2.2.2.1, o1.2.2.2.2.2.2.2.1, o1.2.2.2.2.2.2.2.2.1, o1.2.2.2.2.2.2.2.2.2.1, o1.2.2.2.2.2.2.2.2.2.2.1, o1.2.2.2.2.2.2.2.2.2.2.2.1, o1.2.2.2.2.2.2.2.2.2.2.2.2.1, o1.2.2.2.2.2.2.2.2.2.2.2.2.2.1, o1.2.2.2.2.2.2.2.2.2.2.2.2.2.2.1, o1.2.2.2.2.2.2.2.2.2.2.2.2.2.2.2.1, o1.2.2.2.2.2.2.2.2.2.2.2.2.2.2.2.2.1, o1.2.2.2.2.2.2.2.2.2.2.2.2.2.2.2.2.2.1, o1.2.2.2.2.2.2.2.2.2.2.2.2.2.2.2.2.2.2.1, o1.2.2.2.2.2.2.2.2.2.2.2.2.2.2.2.2.2.2.2.1, o1.2.2.2.2.2.2.2.2.2.2.2.2.2.2.2.2.2.2.2.2.1, o1.2.2.2.2.2.2.2.2.2.2.2.2.2.2.2.2.2.2.2.2.2.1, o1.2.2.2.2.2.2.2.2.2.2.2.2.2.2.2.2.2.2.2.2.2.2.1, o1.2.2.2.2.2.2.2.2.2.2.2.2.2.2.2.2.2.2.2.2.2.2.2.1, o1.2.2.2.2.2.2.2.2.2.2.2.2.2.2.2.2.2.2.2.2.2.2.2.2.1, o1.2.2.2.2.2.2.2.2.2.2.2.2.2.2.2.2.2.2.2.2.2.2.2.2.2.1, o1.2.2.2.2.2.2.2.2.2.2.2.2.2.2.2.2.2.2.2.2.2.2.2.2.2.2, vw, vk, vr, vp, vb, vi, vwc, vl, vg, vo, vsc)))
theorem inX4_done_X1 : ∀ w ∈ wsX10, w ∈ wsX4_done := fun w h => List.mem_cons_of_mem _ (List.mem_append_left _ (List.mem_append_left _ (List.mem_append_left _ (List.mem_append_right _ h))))
theorem inX4_done_X4 : ∀ w ∈ wsX40, w ∈ wsX4_done := fun w h => List.mem_cons_of_mem _ (List.mem_append_left _ (List.mem_append_left _ (List.mem_append_left _ (List.mem_append_left _ (List.mem_append_right _ h)))))
theorem yd_X4_done : yX4_done.cls ≠ "java/lang/invoke/MethodHandle" ∧ yX4_done.cls ≠ "java/lang/invoke/VarHandle" ∧ (parseMethodDescriptor yX4_done.desc).map (fun d => d.parameters.length) = some 0 := by decide +kernel
abbrev rmX4_done : Room := { frames := 6, cells := 0, slots := 0, locals := 138 }
set_option maxHeartbeats 4000000 in
set_option maxRecDepth 100000 in
theorem k_X4_done (l : Launch) (D : va_G) (K : Nat → ClassId) (ax : Nat) (ad : Nat) (ar : Nat) (aw : Nat) (qd : Nat → Nat) (aig : Nat) (q : Nat → Nat) (zyearShop : Nat) (zimages : Nat) (zmeans : Nat) (vsgc : Int32) (vdyfp : Int32) (vdyac : Int32) (vdyba : Int32) (vdywy : Int32) (vdyse : Int32) (vdysp : Int32) (vdyhe : Int32) (vdyhw : Int32) (vrdaw : Int32) (vrdac : Int32) (vrdsp : Int32) (vrdwo : Int32) (vrdot : Int32) (vrwst : Int32) (vrwln : Int32) (vwd : Nat → Int32) (vkd : Nat → Int32) (vrd : Nat → Int32) (vpd : Nat → Int32) (vbd : Nat → Int32) (vid : Nat → Int32) (vwcd : Int32) (vld : Nat → Int32) (vgd : Nat → Int32) (vod : Nat → Int32) (vscd : Int32) (vfg : Nat → Int32) (vw : Nat → Int32) (vk : Nat → Int32) (vr : Nat → Int32) (vp : Nat → Int32) (vb : Nat → Int32) (vi : Nat → Int32) (vwc : Int32) (vl : Nat → Int32) (vg : Nat → Int32) (vo : Nat → Int32) (vsc : Int32) (out : Int32 × Int32 × Int32 × Int32 × Int32 × Int32 × Int32 × Int32 × Int32 × Int32 × Int32 × Int32 × Int32 × Int32 × Int32 × Int32 × Int32 × (Nat → Int32) × (Nat → Int32) × (Nat → Int32) × (Nat → Int32) × (Nat → Int32) × (Nat → Int32) × Int32 × (Nat → Int32) × (Nat → Int32) × (Nat → Int32) × Int32 × (Nat → Int32) × (Nat → Int32) × (Nat → Int32) × (Nat → Int32) × (Nat → Int32) × (Nat → Int32) × Int32 × (Nat → Int32) × (Nat → Int32) × (Nat → Int32) × Int32) (hf : f_X4_done vsgc vdyfp vdyba vrdac vrdsp vrdwo vrdot vwd vkd vrd vpd vbd vid vld vgd vod vfg vw vk vr vp vb vi vwc vl vg vo vsc = some out) : kI l D K .int yX4_done wsX4_done rmX4_done [.ref ax] ((xoW ax (q 0) zyearShop zimages aig ad zmeans vsgc) ++ (dyW ad (qd 0) ar aw vdyfp vdyac vdyba vdywy vdyse vdysp vdyhe vdyhw) ++ (rdW ar vrdaw vrdac vrdsp vrdwo vrdot) ++ (rwW aw vrwst vrwln) ++ (shW K qd vwd vkd vrd vpd vbd vid vwcd vld vgd vod vscd) ++ (iaW K aig 60 vfg) ++ (shW K q vw vk vr vp vb vi vwc vl vg vo vsc)) out.1 ((xoW ax (q 0) zyearShop zimages aig ad zmeans out.2.1) ++ (dyW ad (qd 0) ar aw out.2.2.1 out.2.2.2.1 out.2.2.2.2.1 out.2.2.2.2.2.1 out.2.2.2.2.2.2.1 out.2.2.2.2.2.2.2.1 out.2.2.2.2.2.2.2.2.1 out.2.2.2.2.2.2.2.2.2.1) ++ (rdW ar out.2.2.2.2.2.2.2.2.2.2.1 out.2.2.2.2.2.2.2.2.2.2.2.1 out.2.2.2.2.2.2.2.2.2.2.2.2.1 out.2.2.2.2.2.2.2.2.2.2.2.2.2.1 out.2.2.2.2.2.2.2.2.2.2.2.2.2.2.1) ++ (rwW aw out.2.2.2.2.2.2.2.2.2.2.2.2.2.2.2.1 out.2.2.2.2.2.2.2.2.2.2.2.2.2.2.2.2.1) ++ (shW K qd out.2.2.2.2.2.2.2.2.2.2.2.2.2.2.2.2.2.1 out.2.2.2.2.2.2.2.2.2.2.2.2.2.2.2.2.2.2.1 out.2.2.2.2.2.2.2.2.2.2.2.2.2.2.2.2.2.2.2.1 out.2.2.2.2.2.2.2.2.2.2.2.2.2.2.2.2.2.2.2.2.1 out.2.2.2.2.2.2.2.2.2.2.2.2.2.2.2.2.2.2.2.2.2.1 out.2.2.2.2.2.2.2.2.2.2.2.2.2.2.2.2.2.2.2.2.2.2.1 out.2.2.2.2.2.2.2.2.2.2.2.2.2.2.2.2.2.2.2.2.2.2.2.1 out.2.2.2.2.2.2.2.2.2.2.2.2.2.2.2.2.2.2.2.2.2.2.2.2.1 out.2.2.2.2.2.2.2.2.2.2.2.2.2.2.2.2.2.2.2.2.2.2.2.2.2.1 out.2.2.2.2.2.2.2.2.2.2.2.2.2.2.2.2.2.2.2.2.2.2.2.2.2.2.1 out.2.2.2.2.2.2.2.2.2.2.2.2.2.2.2.2.2.2.2.2.2.2.2.2.2.2.2.1) ++ (iaW K aig 60 vfg) ++ (shW K q out.2.2.2.2.2.2.2.2.2.2.2.2.2.2.2.2.2.2.2.2.2.2.2.2.2.2.2.2.1 out.2.2.2.2.2.2.2.2.2.2.2.2.2.2.2.2.2.2.2.2.2.2.2.2.2.2.2.2.2.1 out.2.2.2.2.2.2.2.2.2.2.2.2.2.2.2.2.2.2.2.2.2.2.2.2.2.2.2.2.2.2.1 out.2.2.2.2.2.2.2.2.2.2.2.2.2.2.2.2.2.2.2.2.2.2.2.2.2.2.2.2.2.2.2.1 out.2.2.2.2.2.2.2.2.2.2.2.2.2.2.2.2.2.2.2.2.2.2.2.2.2.2.2.2.2.2.2.2.1 out.2.2.2.2.2.2.2.2.2.2.2.2.2.2.2.2.2.2.2.2.2.2.2.2.2.2.2.2.2.2.2.2.2.1 out.2.2.2.2.2.2.2.2.2.2.2.2.2.2.2.2.2.2.2.2.2.2.2.2.2.2.2.2.2.2.2.2.2.2.1 out.2.2.2.2.2.2.2.2.2.2.2.2.2.2.2.2.2.2.2.2.2.2.2.2.2.2.2.2.2.2.2.2.2.2.2.1 out.2.2.2.2.2.2.2.2.2.2.2.2.2.2.2.2.2.2.2.2.2.2.2.2.2.2.2.2.2.2.2.2.2.2.2.2.1 out.2.2.2.2.2.2.2.2.2.2.2.2.2.2.2.2.2.2.2.2.2.2.2.2.2.2.2.2.2.2.2.2.2.2.2.2.2.1 out.2.2.2.2.2.2.2.2.2.2.2.2.2.2.2.2.2.2.2.2.2.2.2.2.2.2.2.2.2.2.2.2.2.2.2.2.2.2)) := by
  refine kI.of (cc := cX4_done) (maxL := 2) (by decide) rfl (Nat.le_of_ble_eq_true rfl) ?_
  intro p e s m args below meth c A H0 Q ls hx hb hml hown hts hK hN hA hP hD hS hl hret
  have hown : s.vm.findClass RX4 = some m.cls := hown
  have hl : lv_has ls 2 [(0, .ref ax)] := hl
  generalize hH : H0 = H at hP ⊢
  have hS : va_S A H0 H [] := by rw [← hH]; exact hS
  clear hH
  unfold f_X4_done at hf
  refine lv_aload_n hx hb dX4_done_0 rfl (lv_at hl 0 rfl) ?_
  refine va_get (D := D) (ci := 4) (v := .ref ad) (C := RX4) (T := TX4) (N := 7) hx hb hts inX4_done_X4 hown hK hP 0 rfl rfl 5 (by decide) (hts (.fieldLink RX4 34 "WordScales" "days" "LWordScales$Days;") (List.mem_of_getElem? (i := 1) rfl)) (fun _ h9 => h9) rfl dX4_done_1 ?_
  refine lv_aload_n hx hb dX4_done_4 rfl (lv_at hl 0 rfl) ?_
  refine va_get (D := D) (ci := 4) (v := .ref aig) (C := RX4) (T := TX4) (N := 7) hx hb hts inX4_done_X4 hown hK hP 0 rfl rfl 3 (by decide) (hts (.fieldLink RX4 23 "WordScales" "signs" "[I") (List.mem_of_getElem? (i := 2) rfl)) (fun _ h9 => h9) rfl dX4_done_5 ?_
  refine lv_aload_n hx hb dX4_done_8 rfl (lv_at hl 0 rfl) ?_
  refine va_get (D := D) (ci := 4) (v := .int vsgc) (C := RX4) (T := TX4) (N := 7) hx hb hts inX4_done_X4 hown hK hP 0 rfl rfl 4 (by decide) (hts (.fieldLink RX4 27 "WordScales" "signCount" "I") (List.mem_of_getElem? (i := 3) rfl)) (fun _ h9 => h9) rfl dX4_done_9 ?_
  refine lv_aload_n hx hb dX4_done_12 rfl (lv_at hl 0 rfl) ?_
  refine va_get (D := D) (ci := 4) (v := .ref (q 0)) (C := RX4) (T := TX4) (N := 7) hx hb hts inX4_done_X4 hown hK hP 0 rfl rfl 0 (by decide) (hts (.fieldLink RX4 10 "WordScales" "shop" "LWordScales$Shop;") (List.mem_of_getElem? (i := 4) rfl)) (fun _ h9 => h9) rfl dX4_done_13 ?_
  obtain ⟨o1, ho1, hf⟩ := ob_el hf
  have hPc : va_P D vwCl ((dyW ad (qd 0) ar aw vdyfp vdyac vdyba vdywy vdyse vdysp vdyhe vdyhw) ++ (rdW ar vrdaw vrdac vrdsp vrdwo vrdot) ++ (rwW aw vrwst vrwln) ++ (shW K qd vwd vkd vrd vpd vbd vid vwcd vld vgd vod vscd) ++ (iaW K aig 60 vfg) ++ (shW K q vw vk vr vp vb vi vwc vl vg vo vsc)) H := hP.sub [1, 2, 3, 4, 5, 6, 7, 8, 9, 10, 11, 12, 13, 14, 15, 16, 17, 18, 19, 20, 21, 22, 23, 24] rfl
  have hDc : va_D A ((dyW ad (qd 0) ar aw vdyfp vdyac vdyba vdywy vdyse vdysp vdyhe vdyhw) ++ (rdW ar vrdaw vrdac vrdsp vrdwo vrdot) ++ (rwW aw vrwst vrwln) ++ (shW K qd vwd vkd vrd vpd vbd vid vwcd vld vgd vod vscd) ++ (iaW K aig 60 vfg) ++ (shW K q vw vk vr vp vb vi vwc vl vg vo vsc)) := hD.sub [1, 2, 3, 4, 5, 6, 7, 8, 9, 10, 11, 12, 13, 14, 15, 16, 17, 18, 19, 20, 21, 22, 23, 24] (by decide) rfl
  refine kcg_i (D := D) (wc := ((dyW ad (qd 0) ar aw vdyfp vdyac vdyba vdywy vdyse vdysp vdyhe vdyhw) ++ (rdW ar vrdaw vrdac vrdsp vrdwo vrdot) ++ (rwW aw vrwst vrwln) ++ (shW K qd vwd vkd vrd vpd vbd vid vwcd vld vgd vod vscd) ++ (iaW K aig 60 vfg) ++ (shW K q vw vk vr vp vb vi vwc vl vg vo vsc))) (wc' := ((dyW ad (qd 0) ar aw o1.2.1 o1.2.2.1 o1.2.2.2.1 o1.2.2.2.2.1 o1.2.2.2.2.2.1 o1.2.2.2.2.2.2.1 o1.2.2.2.2.2.2.2.1 o1.2.2.2.2.2.2.2.2.1) ++ (rdW ar o1.2.2.2.2.2.2.2.2.2.1 o1.2.2.2.2.2.2.2.2.2.2.1 o1.2.2.2.2.2.2.2.2.2.2.2.1 o1.2.2.2.2.2.2.2.2.2.2.2.2.1 o1.2.2.2.2.2.2.2.2.2.2.2.2.2.1) ++ (rwW aw o1.2.2.2.2.2.2.2.2.2.2.2.2.2.2.1 o1.2.2.2.2.2.2.2.2.2.2.2.2.2.2.2.1) ++ (shW K qd o1.2.2.2.2.2.2.2.2.2.2.2.2.2.2.2.2.1 o1.2.2.2.2.2.2.2.2.2.2.2.2.2.2.2.2.2.1 o1.2.2.2.2.2.2.2.2.2.2.2.2.2.2.2.2.2.2.1 o1.2.2.2.2.2.2.2.2.2.2.2.2.2.2.2.2.2.2.2.1 o1.2.2.2.2.2.2.2.2.2.2.2.2.2.2.2.2.2.2.2.2.1 o1.2.2.2.2.2.2.2.2.2.2.2.2.2.2.2.2.2.2.2.2.2.1 o1.2.2.2.2.2.2.2.2.2.2.2.2.2.2.2.2.2.2.2.2.2.2.1 o1.2.2.2.2.2.2.2.2.2.2.2.2.2.2.2.2.2.2.2.2.2.2.2.1 o1.2.2.2.2.2.2.2.2.2.2.2.2.2.2.2.2.2.2.2.2.2.2.2.2.1 o1.2.2.2.2.2.2.2.2.2.2.2.2.2.2.2.2.2.2.2.2.2.2.2.2.2.1 o1.2.2.2.2.2.2.2.2.2.2.2.2.2.2.2.2.2.2.2.2.2.2.2.2.2.2) ++ (iaW K aig 60 vfg) ++ (shW K q vw vk vr vp vb vi vwc vl vg vo vsc))) (wr := [0].filterMap (fun i => (((xoW ax (q 0) zyearShop zimages aig ad zmeans vsgc) ++ (dyW ad (qd 0) ar aw vdyfp vdyac vdyba vdywy vdyse vdysp vdyhe vdyhw) ++ (rdW ar vrdaw vrdac vrdsp vrdwo vrdot) ++ (rwW aw vrwst vrwln) ++ (shW K qd vwd vkd vrd vpd vbd vid vwcd vld vgd vod vscd) ++ (iaW K aig 60 vfg) ++ (shW K q vw vk vr vp vb vi vwc vl vg vo vsc)) : va_W)[i]?)) (ws2 := ((xoW ax (q 0) zyearShop zimages aig ad zmeans vsgc) ++ (dyW ad (qd 0) ar aw o1.2.1 o1.2.2.1 o1.2.2.2.1 o1.2.2.2.2.1 o1.2.2.2.2.2.1 o1.2.2.2.2.2.2.1 o1.2.2.2.2.2.2.2.1 o1.2.2.2.2.2.2.2.2.1) ++ (rdW ar o1.2.2.2.2.2.2.2.2.2.1 o1.2.2.2.2.2.2.2.2.2.2.1 o1.2.2.2.2.2.2.2.2.2.2.2.1 o1.2.2.2.2.2.2.2.2.2.2.2.2.1 o1.2.2.2.2.2.2.2.2.2.2.2.2.2.1) ++ (rwW aw o1.2.2.2.2.2.2.2.2.2.2.2.2.2.2.1 o1.2.2.2.2.2.2.2.2.2.2.2.2.2.2.2.1) ++ (shW K qd o1.2.2.2.2.2.2.2.2.2.2.2.2.2.2.2.2.1 o1.2.2.2.2.2.2.2.2.2.2.2.2.2.2.2.2.2.1 o1.2.2.2.2.2.2.2.2.2.2.2.2.2.2.2.2.2.2.1 o1.2.2.2.2.2.2.2.2.2.2.2.2.2.2.2.2.2.2.2.1 o1.2.2.2.2.2.2.2.2.2.2.2.2.2.2.2.2.2.2.2.2.1 o1.2.2.2.2.2.2.2.2.2.2.2.2.2.2.2.2.2.2.2.2.2.1 o1.2.2.2.2.2.2.2.2.2.2.2.2.2.2.2.2.2.2.2.2.2.2.1 o1.2.2.2.2.2.2.2.2.2.2.2.2.2.2.2.2.2.2.2.2.2.2.2.1 o1.2.2.2.2.2.2.2.2.2.2.2.2.2.2.2.2.2.2.2.2.2.2.2.2.1 o1.2.2.2.2.2.2.2.2.2.2.2.2.2.2.2.2.2.2.2.2.2.2.2.2.2.1 o1.2.2.2.2.2.2.2.2.2.2.2.2.2.2.2.2.2.2.2.2.2.2.2.2.2.2) ++ (iaW K aig 60 vfg) ++ (shW K q vw vk vr vp vb vi vwc vl vg vo vsc))) (va_runVN (As := [.ref aig, .int vsgc, .ref (q 0)]) (rest := []) ⟨hx, hb, hml, hown, hts⟩ ((k_X1_readAll l D K ad ar aw qd aig q vdyfp vdyac vdyba vdywy vdyse vdysp vdyhe vdyhw vrdaw vrdac vrdsp vrdwo vrdot vrwst vrwln vwd vkd vrd vpd vbd vid vwcd vld vgd vod vscd vfg vw vk vr vp vb vi vwc vl vg vo vsc vsgc o1 ho1) H.size) ⟨va_cnB 3 hts gX4_done_X1_readAll_n85 rfl rfl rfl (hN _ (List.mem_of_getElem? (i := 36) rfl)) (hts (.initialized RX1) (List.mem_of_getElem? (i := 6) rfl)) yd_X1_readAll ⟨Nat.le_of_ble_eq_true rfl, Nat.le_of_ble_eq_true rfl⟩, (hts (.instanceMethod yX1_readAll) (List.mem_of_getElem? (i := 5) rfl)), (hts (.selects RX1 yX1_readAll yX1_readAll) (List.mem_of_getElem? (i := 7) rfl))⟩ (kPreV (ci := 1) (q0 := 1) hP rfl rfl hPc hDc hK hN) rfl rfl hl.1 rfl (lv_room (Nat.le_of_ble_eq_true rfl)) dX4_done_16 ⟨Nat.le_of_ble_eq_true rfl, Nat.le_of_ble_eq_true rfl⟩) hP hD hS hA [1, 2, 3, 4, 5, 6, 7, 8, 9, 10, 11, 12, 13, 14, 15, 16, 17, 18, 19, 20, 21, 22, 23, 24] [0] [0, 1, 2, 3, 4, 5, 6, 7, 8, 9, 10, 11, 12, 13, 14, 15, 16, 17, 18, 19, 20, 21, 22, 23, 24] rfl rfl (by decide) (by decide) rfl (by decide) (fun hzo1 H locs hP hD hS => ?_)
  refine lv_istore_n (lv' := [(1, .int o1.1), (0, .ref ax)]) hx hb dX4_done_19 rfl hl (by decide) rfl (fun ls hl => ?_)
  refine lv_iload_n hx hb dX4_done_20 rfl (lv_at hl 0 rfl) ?_
  refine lv_if_eq (tgt := 26) hx hb dX4_done_21 (by decide) (fun c2 => ?_) (fun c2 => ?_)
  · rw [if_pos c2] at hf
    refine lv_aload_n hx hb dX4_done_26 rfl (lv_at hl 1 rfl) ?_
    refine va_get (D := D) (ci := 4) (v := .ref (q 0)) (C := RX4) (T := TX4) (N := 7) hx hb hts inX4_done_X4 hown hK hP 0 rfl rfl 0 (by decide) (hts (.fieldLink RX4 10 "WordScales" "shop" "LWordScales$Shop;") (List.mem_of_getElem? (i := 4) rfl)) (fun _ h9 => h9) rfl dX4_done_27 ?_
    refine lv_aload_n hx hb dX4_done_30 rfl (lv_at hl 1 rfl) ?_
    refine va_get (D := D) (ci := 4) (v := .ref ad) (C := RX4) (T := TX4) (N := 7) hx hb hts inX4_done_X4 hown hK hP 0 rfl rfl 5 (by decide) (hts (.fieldLink RX4 34 "WordScales" "days" "LWordScales$Days;") (List.mem_of_getElem? (i := 1) rfl)) (fun _ h9 => h9) rfl dX4_done_31 ?_
    refine va_getN (D := D) (host := "WordScales") (ci := 1) (v := .ref (qd 0)) (C := RX1) (T := TX1) (N := 11) hx hb hts inX4_done_X1 hown hK hP 1 rfl rfl 0 (by decide) (va_Nw.use rfl (hN _ (List.mem_of_getElem? (i := 18) rfl))) (fun _ h9 => h9) rfl dX4_done_34 ?_
    obtain ⟨o3, ho3, hf⟩ := ob_el hf
    have hPc : va_P D vwCl ((shW K q vw vk vr vp vb vi vwc vl vg vo vsc) ++ (shW K qd o1.2.2.2.2.2.2.2.2.2.2.2.2.2.2.2.2.1 o1.2.2.2.2.2.2.2.2.2.2.2.2.2.2.2.2.2.1 o1.2.2.2.2.2.2.2.2.2.2.2.2.2.2.2.2.2.2.1 o1.2.2.2.2.2.2.2.2.2.2.2.2.2.2.2.2.2.2.2.1 o1.2.2.2.2.2.2.2.2.2.2.2.2.2.2.2.2.2.2.2.2.1 o1.2.2.2.2.2.2.2.2.2.2.2.2.2.2.2.2.2.2.2.2.2.1 o1.2.2.2.2.2.2.2.2.2.2.2.2.2.2.2.2.2.2.2.2.2.2.1 o1.2.2.2.2.2.2.2.2.2.2.2.2.2.2.2.2.2.2.2.2.2.2.2.1 o1.2.2.2.2.2.2.2.2.2.2.2.2.2.2.2.2.2.2.2.2.2.2.2.2.1 o1.2.2.2.2.2.2.2.2.2.2.2.2.2.2.2.2.2.2.2.2.2.2.2.2.2.1 o1.2.2.2.2.2.2.2.2.2.2.2.2.2.2.2.2.2.2.2.2.2.2.2.2.2.2)) H := hP.sub [15, 16, 17, 18, 19, 20, 21, 22, 23, 24, 4, 5, 6, 7, 8, 9, 10, 11, 12, 13] rfl
    have hDc : va_D A ((shW K q vw vk vr vp vb vi vwc vl vg vo vsc) ++ (shW K qd o1.2.2.2.2.2.2.2.2.2.2.2.2.2.2.2.2.1 o1.2.2.2.2.2.2.2.2.2.2.2.2.2.2.2.2.2.1 o1.2.2.2.2.2.2.2.2.2.2.2.2.2.2.2.2.2.2.1 o1.2.2.2.2.2.2.2.2.2.2.2.2.2.2.2.2.2.2.2.1 o1.2.2.2.2.2.2.2.2.2.2.2.2.2.2.2.2.2.2.2.2.1 o1.2.2.2.2.2.2.2.2.2.2.2.2.2.2.2.2.2.2.2.2.2.1 o1.2.2.2.2.2.2.2.2.2.2.2.2.2.2.2.2.2.2.2.2.2.2.1 o1.2.2.2.2.2.2.2.2.2.2.2.2.2.2.2.2.2.2.2.2.2.2.2.1 o1.2.2.2.2.2.2.2.2.2.2.2.2.2.2.2.2.2.2.2.2.2.2.2.2.1 o1.2.2.2.2.2.2.2.2.2.2.2.2.2.2.2.2.2.2.2.2.2.2.2.2.2.1 o1.2.2.2.2.2.2.2.2.2.2.2.2.2.2.2.2.2.2.2.2.2.2.2.2.2.2)) := hD.sub [15, 16, 17, 18, 19, 20, 21, 22, 23, 24, 4, 5, 6, 7, 8, 9, 10, 11, 12, 13] (by decide) rfl
    refine kcg_v (D := D) (wc := ((shW K q vw vk vr vp vb vi vwc vl vg vo vsc) ++ (shW K qd o1.2.2.2.2.2.2.2.2.2.2.2.2.2.2.2.2.1 o1.2.2.2.2.2.2.2.2.2.2.2.2.2.2.2.2.2.1 o1.2.2.2.2.2.2.2.2.2.2.2.2.2.2.2.2.2.2.1 o1.2.2.2.2.2.2.2.2.2.2.2.2.2.2.2.2.2.2.2.1 o1.2.2.2.2.2.2.2.2.2.2.2.2.2.2.2.2.2.2.2.2.1 o1.2.2.2.2.2.2.2.2.2.2.2.2.2.2.2.2.2.2.2.2.2.1 o1.2.2.2.2.2.2.2.2.2.2.2.2.2.2.2.2.2.2.2.2.2.2.1 o1.2.2.2.2.2.2.2.2.2.2.2.2.2.2.2.2.2.2.2.2.2.2.2.1 o1.2.2.2.2.2.2.2.2.2.2.2.2.2.2.2.2.2.2.2.2.2.2.2.2.1 o1.2.2.2.2.2.2.2.2.2.2.2.2.2.2.2.2.2.2.2.2.2.2.2.2.2.1 o1.2.2.2.2.2.2.2.2.2.2.2.2.2.2.2.2.2.2.2.2.2.2.2.2.2.2))) (wc' := ((shW K q o3.1 o3.2.1 o3.2.2.1 o3.2.2.2.1 o3.2.2.2.2.1 o3.2.2.2.2.2.1 o3.2.2.2.2.2.2.1 o3.2.2.2.2.2.2.2.1 o3.2.2.2.2.2.2.2.2.1 o3.2.2.2.2.2.2.2.2.2.1 o3.2.2.2.2.2.2.2.2.2.2) ++ (shW K qd o1.2.2.2.2.2.2.2.2.2.2.2.2.2.2.2.2.1 o1.2.2.2.2.2.2.2.2.2.2.2.2.2.2.2.2.2.1 o1.2.2.2.2.2.2.2.2.2.2.2.2.2.2.2.2.2.2.1 o1.2.2.2.2.2.2.2.2.2.2.2.2.2.2.2.2.2.2.2.1 o1.2.2.2.2.2.2.2.2.2.2.2.2.2.2.2.2.2.2.2.2.1 o1.2.2.2.2.2.2.2.2.2.2.2.2.2.2.2.2.2.2.2.2.2.1 o1.2.2.2.2.2.2.2.2.2.2.2.2.2.2.2.2.2.2.2.2.2.2.1 o1.2.2.2.2.2.2.2.2.2.2.2.2.2.2.2.2.2.2.2.2.2.2.2.1 o1.2.2.2.2.2.2.2.2.2.2.2.2.2.2.2.2.2.2.2.2.2.2.2.2.1 o1.2.2.2.2.2.2.2.2.2.2.2.2.2.2.2.2.2.2.2.2.2.2.2.2.2.1 o1.2.2.2.2.2.2.2.2.2.2.2.2.2.2.2.2.2.2.2.2.2.2.2.2.2.2))) (wr := [0, 1, 2, 3, 14].filterMap (fun i => (((xoW ax (q 0) zyearShop zimages aig ad zmeans vsgc) ++ (dyW ad (qd 0) ar aw o1.2.1 o1.2.2.1 o1.2.2.2.1 o1.2.2.2.2.1 o1.2.2.2.2.2.1 o1.2.2.2.2.2.2.1 o1.2.2.2.2.2.2.2.1 o1.2.2.2.2.2.2.2.2.1) ++ (rdW ar o1.2.2.2.2.2.2.2.2.2.1 o1.2.2.2.2.2.2.2.2.2.2.1 o1.2.2.2.2.2.2.2.2.2.2.2.1 o1.2.2.2.2.2.2.2.2.2.2.2.2.1 o1.2.2.2.2.2.2.2.2.2.2.2.2.2.1) ++ (rwW aw o1.2.2.2.2.2.2.2.2.2.2.2.2.2.2.1 o1.2.2.2.2.2.2.2.2.2.2.2.2.2.2.2.1) ++ (shW K qd o1.2.2.2.2.2.2.2.2.2.2.2.2.2.2.2.2.1 o1.2.2.2.2.2.2.2.2.2.2.2.2.2.2.2.2.2.1 o1.2.2.2.2.2.2.2.2.2.2.2.2.2.2.2.2.2.2.1 o1.2.2.2.2.2.2.2.2.2.2.2.2.2.2.2.2.2.2.2.1 o1.2.2.2.2.2.2.2.2.2.2.2.2.2.2.2.2.2.2.2.2.1 o1.2.2.2.2.2.2.2.2.2.2.2.2.2.2.2.2.2.2.2.2.2.1 o1.2.2.2.2.2.2.2.2.2.2.2.2.2.2.2.2.2.2.2.2.2.2.1 o1.2.2.2.2.2.2.2.2.2.2.2.2.2.2.2.2.2.2.2.2.2.2.2.1 o1.2.2.2.2.2.2.2.2.2.2.2.2.2.2.2.2.2.2.2.2.2.2.2.2.1 o1.2.2.2.2.2.2.2.2.2.2.2.2.2.2.2.2.2.2.2.2.2.2.2.2.2.1 o1.2.2.2.2.2.2.2.2.2.2.2.2.2.2.2.2.2.2.2.2.2.2.2.2.2.2) ++ (iaW K aig 60 vfg) ++ (shW K q vw vk vr vp vb vi vwc vl vg vo vsc)) : va_W)[i]?)) (ws2 := ((xoW ax (q 0) zyearShop zimages aig ad zmeans vsgc) ++ (dyW ad (qd 0) ar aw o1.2.1 o1.2.2.1 o1.2.2.2.1 o1.2.2.2.2.1 o1.2.2.2.2.2.1 o1.2.2.2.2.2.2.1 o1.2.2.2.2.2.2.2.1 o1.2.2.2.2.2.2.2.2.1) ++ (rdW ar o1.2.2.2.2.2.2.2.2.2.1 o1.2.2.2.2.2.2.2.2.2.2.1 o1.2.2.2.2.2.2.2.2.2.2.2.1 o1.2.2.2.2.2.2.2.2.2.2.2.2.1 o1.2.2.2.2.2.2.2.2.2.2.2.2.2.1) ++ (rwW aw o1.2.2.2.2.2.2.2.2.2.2.2.2.2.2.1 o1.2.2.2.2.2.2.2.2.2.2.2.2.2.2.2.1) ++ (shW K qd o1.2.2.2.2.2.2.2.2.2.2.2.2.2.2.2.2.1 o1.2.2.2.2.2.2.2.2.2.2.2.2.2.2.2.2.2.1 o1.2.2.2.2.2.2.2.2.2.2.2.2.2.2.2.2.2.2.1 o1.2.2.2.2.2.2.2.2.2.2.2.2.2.2.2.2.2.2.2.1 o1.2.2.2.2.2.2.2.2.2.2.2.2.2.2.2.2.2.2.2.2.1 o1.2.2.2.2.2.2.2.2.2.2.2.2.2.2.2.2.2.2.2.2.2.1 o1.2.2.2.2.2.2.2.2.2.2.2.2.2.2.2.2.2.2.2.2.2.2.1 o1.2.2.2.2.2.2.2.2.2.2.2.2.2.2.2.2.2.2.2.2.2.2.2.1 o1.2.2.2.2.2.2.2.2.2.2.2.2.2.2.2.2.2.2.2.2.2.2.2.2.1 o1.2.2.2.2.2.2.2.2.2.2.2.2.2.2.2.2.2.2.2.2.2.2.2.2.2.1 o1.2.2.2.2.2.2.2.2.2.2.2.2.2.2.2.2.2.2.2.2.2.2.2.2.2.2) ++ (iaW K aig 60 vfg) ++ (shW K q o3.1 o3.2.1 o3.2.2.1 o3.2.2.2.1 o3.2.2.2.2.1 o3.2.2.2.2.2.1 o3.2.2.2.2.2.2.1 o3.2.2.2.2.2.2.2.1 o3.2.2.2.2.2.2.2.2.1 o3.2.2.2.2.2.2.2.2.2.1 o3.2.2.2.2.2.2.2.2.2.2))) (va_runVN (As := [.ref (qd 0)]) (rest := []) ⟨hx, hb, hml, hown, hts⟩ ((k_X3_copyFrom l D K q qd vw vk vr vp vb vi vwc vl vg vo vsc o1.2.2.2.2.2.2.2.2.2.2.2.2.2.2.2.2.1 o1.2.2.2.2.2.2.2.2.2.2.2.2.2.2.2.2.2.1 o1.2.2.2.2.2.2.2.2.2.2.2.2.2.2.2.2.2.2.1 o1.2.2.2.2.2.2.2.2.2.2.2.2.2.2.2.2.2.2.2.1 o1.2.2.2.2.2.2.2.2.2.2.2.2.2.2.2.2.2.2.2.2.1 o1.2.2.2.2.2.2.2.2.2.2.2.2.2.2.2.2.2.2.2.2.2.1 o1.2.2.2.2.2.2.2.2.2.2.2.2.2.2.2.2.2.2.2.2.2.2.1 o1.2.2.2.2.2.2.2.2.2.2.2.2.2.2.2.2.2.2.2.2.2.2.2.1 o1.2.2.2.2.2.2.2.2.2.2.2.2.2.2.2.2.2.2.2.2.2.2.2.2.1 o1.2.2.2.2.2.2.2.2.2.2.2.2.2.2.2.2.2.2.2.2.2.2.2.2.2.1 o1.2.2.2.2.2.2.2.2.2.2.2.2.2.2.2.2.2.2.2.2.2.2.2.2.2.2 o3 ho3) H.size) ⟨va_cnB 1 hts gX4_done_X3_copyFrom_n117 rfl rfl rfl (hN _ (List.mem_of_getElem? (i := 50) rfl)) (hts (.initialized RX3) (List.mem_of_getElem? (i := 24) rfl)) yd_X3_copyFrom ⟨Nat.le_of_ble_eq_true rfl, Nat.le_of_ble_eq_true rfl⟩, (hts (.instanceMethod yX3_copyFrom) (List.mem_of_getElem? (i := 23) rfl)), (hts (.selects RX3 yX3_copyFrom yX3_copyFrom) (List.mem_of_getElem? (i := 25) rfl))⟩ (kPreV (ci := 3) (q0 := 15) hP rfl rfl hPc hDc hK hN) rfl rfl hl.1 rfl (lv_room (Nat.le_of_ble_eq_true rfl)) dX4_done_37 ⟨Nat.le_of_ble_eq_true rfl, Nat.le_of_ble_eq_true rfl⟩) hP hD hS hA [15, 16, 17, 18, 19, 20, 21, 22, 23, 24, 4, 5, 6, 7, 8, 9, 10, 11, 12, 13] [0, 1, 2, 3, 14] [0, 1, 2, 3, 15, 16, 17, 18, 19, 20, 21, 22, 23, 24, 4, 5, 6, 7, 8, 9, 10, 11, 12, 13, 14] rfl rfl (by decide) (by decide) rfl (by decide) (fun H locs hP hD hS => ?_)
    refine lv_aload_n hx hb dX4_done_40 rfl (lv_at hl 1 rfl) ?_
    refine lv_iconst (v := 0) hx hb dX4_done_41 (by decide) ?_
    refine va_put (D := D) (ci := 4) (v := .int 0) (ty := .int) (C := RX4) (T := TX4) (N := 7) hx hb hts inX4_done_X4 tyX4 tyX4_ok nmX4 hown hK hP hD hS 0 rfl rfl 4 (by decide) (hts (.fieldLink RX4 27 "WordScales" "signCount" "I") (List.mem_of_getElem? (i := 3) rfl)) (fun _ h9 => h9) rfl (tyX4_ok 4 (by decide)) rfl rfl (Nat.le_of_ble_eq_true rfl) dX4_done_42 (fun H locs hP hD hS => ?_)
    have hP : va_P D vwCl ((xoW ax (q 0) zyearShop zimages aig ad zmeans 0) ++ (dyW ad (qd 0) ar aw o1.2.1 o1.2.2.1 o1.2.2.2.1 o1.2.2.2.2.1 o1.2.2.2.2.2.1 o1.2.2.2.2.2.2.1 o1.2.2.2.2.2.2.2.1 o1.2.2.2.2.2.2.2.2.1) ++ (rdW ar o1.2.2.2.2.2.2.2.2.2.1 o1.2.2.2.2.2.2.2.2.2.2.1 o1.2.2.2.2.2.2.2.2.2.2.2.1 o1.2.2.2.2.2.2.2.2.2.2.2.2.1 o1.2.2.2.2.2.2.2.2.2.2.2.2.2.1) ++ (rwW aw o1.2.2.2.2.2.2.2.2.2.2.2.2.2.2.1 o1.2.2.2.2.2.2.2.2.2.2.2.2.2.2.2.1) ++ (shW K qd o1.2.2.2.2.2.2.2.2.2.2.2.2.2.2.2.2.1 o1.2.2.2.2.2.2.2.2.2.2.2.2.2.2.2.2.2.1 o1.2.2.2.2.2.2.2.2.2.2.2.2.2.2.2.2.2.2.1 o1.2.2.2.2.2.2.2.2.2.2.2.2.2.2.2.2.2.2.2.1 o1.2.2.2.2.2.2.2.2.2.2.2.2.2.2.2.2.2.2.2.2.1 o1.2.2.2.2.2.2.2.2.2.2.2.2.2.2.2.2.2.2.2.2.2.1 o1.2.2.2.2.2.2.2.2.2.2.2.2.2.2.2.2.2.2.2.2.2.2.1 o1.2.2.2.2.2.2.2.2.2.2.2.2.2.2.2.2.2.2.2.2.2.2.2.1 o1.2.2.2.2.2.2.2.2.2.2.2.2.2.2.2.2.2.2.2.2.2.2.2.2.1 o1.2.2.2.2.2.2.2.2.2.2.2.2.2.2.2.2.2.2.2.2.2.2.2.2.2.1 o1.2.2.2.2.2.2.2.2.2.2.2.2.2.2.2.2.2.2.2.2.2.2.2.2.2.2) ++ (iaW K aig 60 vfg) ++ (shW K q o3.1 o3.2.1 o3.2.2.1 o3.2.2.2.1 o3.2.2.2.2.1 o3.2.2.2.2.2.1 o3.2.2.2.2.2.2.1 o3.2.2.2.2.2.2.2.1 o3.2.2.2.2.2.2.2.2.1 o3.2.2.2.2.2.2.2.2.2.1 o3.2.2.2.2.2.2.2.2.2.2)) H := hP
    have hD : va_D A ((xoW ax (q 0) zyearShop zimages aig ad zmeans 0) ++ (dyW ad (qd 0) ar aw o1.2.1 o1.2.2.1 o1.2.2.2.1 o1.2.2.2.2.1 o1.2.2.2.2.2.1 o1.2.2.2.2.2.2.1 o1.2.2.2.2.2.2.2.1 o1.2.2.2.2.2.2.2.2.1) ++ (rdW ar o1.2.2.2.2.2.2.2.2.2.1 o1.2.2.2.2.2.2.2.2.2.2.1 o1.2.2.2.2.2.2.2.2.2.2.2.1 o1.2.2.2.2.2.2.2.2.2.2.2.2.1 o1.2.2.2.2.2.2.2.2.2.2.2.2.2.1) ++ (rwW aw o1.2.2.2.2.2.2.2.2.2.2.2.2.2.2.1 o1.2.2.2.2.2.2.2.2.2.2.2.2.2.2.2.1) ++ (shW K qd o1.2.2.2.2.2.2.2.2.2.2.2.2.2.2.2.2.1 o1.2.2.2.2.2.2.2.2.2.2.2.2.2.2.2.2.2.1 o1.2.2.2.2.2.2.2.2.2.2.2.2.2.2.2.2.2.2.1 o1.2.2.2.2.2.2.2.2.2.2.2.2.2.2.2.2.2.2.2.1 o1.2.2.2.2.2.2.2.2.2.2.2.2.2.2.2.2.2.2.2.2.1 o1.2.2.2.2.2.2.2.2.2.2.2.2.2.2.2.2.2.2.2.2.2.1 o1.2.2.2.2.2.2.2.2.2.2.2.2.2.2.2.2.2.2.2.2.2.2.1 o1.2.2.2.2.2.2.2.2.2.2.2.2.2.2.2.2.2.2.2.2.2.2.2.1 o1.2.2.2.2.2.2.2.2.2.2.2.2.2.2.2.2.2.2.2.2.2.2.2.2.1 o1.2.2.2.2.2.2.2.2.2.2.2.2.2.2.2.2.2.2.2.2.2.2.2.2.2.1 o1.2.2.2.2.2.2.2.2.2.2.2.2.2.2.2.2.2.2.2.2.2.2.2.2.2.2) ++ (iaW K aig 60 vfg) ++ (shW K q o3.1 o3.2.1 o3.2.2.1 o3.2.2.2.1 o3.2.2.2.2.1 o3.2.2.2.2.2.1 o3.2.2.2.2.2.2.1 o3.2.2.2.2.2.2.2.1 o3.2.2.2.2.2.2.2.2.1 o3.2.2.2.2.2.2.2.2.2.1 o3.2.2.2.2.2.2.2.2.2.2)) := hD
    refine lv_aload_n hx hb dX4_done_45 rfl (lv_at hl 1 rfl) ?_
    refine va_get (D := D) (ci := 4) (v := .ref ad) (C := RX4) (T := TX4) (N := 7) hx hb hts inX4_done_X4 hown hK hP 0 rfl rfl 5 (by decide) (hts (.fieldLink RX4 34 "WordScales" "days" "LWordScales$Days;") (List.mem_of_getElem? (i := 1) rfl)) (fun _ h9 => h9) rfl dX4_done_46 ?_
    refine va_getN (D := D) (host := "WordScales") (ci := 1) (v := .int o1.2.2.1) (C := RX1) (T := TX1) (N := 11) hx hb hts inX4_done_X1 hown hK hP 1 rfl rfl 4 (by decide) (va_Nw.use rfl (hN _ (List.mem_of_getElem? (i := 21) rfl))) (fun _ h9 => h9) rfl dX4_done_49 ?_
    obtain rfl := Option.some.inj hf
    exact hret rfl rfl rfl hP hD hS dX4_done_52
  · rw [if_neg c2] at hf
    refine lv_iload_n hx hb dX4_done_24 rfl (lv_at hl 0 rfl) ?_
    obtain rfl := Option.some.inj hf
    exact hret rfl rfl rfl hP hD hS dX4_done_25
def f_X4_scales (vw : Nat → Int32) (vr : Nat → Int32) (p0 : Int32) : Option (Int32) := bd (f_X4_isSet p0) (fun o1 => if o1 = 0 then (some (-2)) else (ob (f_X3_weigh vw vr p0) (fun o3 => some o3)))
theorem inX4_scales_X4 : ∀ w ∈ wsX40, w ∈ wsX4_scales := fun w h => List.mem_cons_of_mem _ (List.mem_append_left _ (List.mem_append_right _ h))
theorem yd_X4_scales : yX4_scales.cls ≠ "java/lang/invoke/MethodHandle" ∧ yX4_scales.cls ≠ "java/lang/invoke/VarHandle" ∧ (parseMethodDescriptor yX4_scales.desc).map (fun d => d.parameters.length) = some 1 := by decide +kernel
abbrev rmX4_scales : Room := { frames := 3, cells := 0, slots := 0, locals := 72 }
set_option maxHeartbeats 4000000 in
set_option maxRecDepth 100000 in
theorem k_X4_scales (l : Launch) (D : va_G) (K : Nat → ClassId) (ax : Nat) (q : Nat → Nat) (zyearShop : Nat) (zimages : Nat) (zsigns : Nat) (zdays : Nat) (zmeans : Nat) (vsgc : Int32) (vw : Nat → Int32) (vk : Nat → Int32) (vr : Nat → Int32) (vp : Nat → Int32) (vb : Nat → Int32) (vi : Nat → Int32) (vwc : Int32) (vl : Nat → Int32) (vg : Nat → Int32) (vo : Nat → Int32) (vsc : Int32) (p0 : Int32) (out : Int32) (hf : f_X4_scales vw vr p0 = some out) : kI l D K .int yX4_scales wsX4_scales rmX4_scales [.ref ax, .int p0] ((xoW ax (q 0) zyearShop zimages zsigns zdays zmeans vsgc) ++ (shW K q vw vk vr vp vb vi vwc vl vg vo vsc)) out ((xoW ax (q 0) zyearShop zimages zsigns zdays zmeans vsgc) ++ (shW K q vw vk vr vp vb vi vwc vl vg vo vsc)) := by
  refine kI.of (cc := cX4_scales) (maxL := 2) (by decide) rfl (Nat.le_of_ble_eq_true rfl) ?_
  intro p e s m args below meth c A H0 Q ls hx hb hml hown hts hK hN hA hP hD hS hl hret
  have hown : s.vm.findClass RX4 = some m.cls := hown
  have hl : lv_has ls 2 [(0, .ref ax), (1, .int p0)] := hl
  generalize hH : H0 = H at hP ⊢
  have hS : va_S A H0 H [] := by rw [← hH]; exact hS
  clear hH
  unfold f_X4_scales at hf
  refine lv_iload_n hx hb dX4_scales_0 rfl (lv_at hl 1 rfl) ?_
  obtain ⟨o1, ho1, hf⟩ := bd_el hf
  refine kc0_i (D := D) (va_runS (As := [.int p0]) (rest := []) ⟨hx, hb, hml, hown, hts⟩ ((k_X4_isSet l D K p0 o1 ho1) H.size) (va_cwS 1 hts gX4_scales_X4_isSet rfl rfl rfl yd_X4_isSet ⟨Nat.le_of_ble_eq_true rfl, Nat.le_of_ble_eq_true rfl⟩) (kPreS va_P_nil (va_D_nil (A := fun _ => True)) hK hN) rfl rfl hl.1 rfl (lv_room (Nat.le_of_ble_eq_true rfl)) dX4_scales_1 ⟨Nat.le_of_ble_eq_true rfl, Nat.le_of_ble_eq_true rfl⟩) hP hS hA (fun hzo1 H locs hP hS => ?_)
  refine lv_if_eq (tgt := 18) hx hb dX4_scales_4 (by decide) (fun c2 => ?_) (fun c2 => ?_)
  · rw [if_pos c2] at hf
    refine lv_bipush (v := (-2)) hx hb dX4_scales_18 (by decide) ?_
    obtain rfl := Option.some.inj hf
    exact hret rfl rfl rfl hP hD hS dX4_scales_20
  · rw [if_neg c2] at hf
    refine lv_aload_n hx hb dX4_scales_7 rfl (lv_at hl 0 rfl) ?_
    refine va_get (D := D) (ci := 4) (v := .ref (q 0)) (C := RX4) (T := TX4) (N := 7) hx hb hts inX4_scales_X4 hown hK hP 0 rfl rfl 0 (by decide) (hts (.fieldLink RX4 10 "WordScales" "shop" "LWordScales$Shop;") (List.mem_of_getElem? (i := 1) rfl)) (fun _ h9 => h9) rfl dX4_scales_8 ?_
    refine lv_iload_n hx hb dX4_scales_11 rfl (lv_at hl 1 rfl) ?_
    obtain ⟨o3, ho3, hf⟩ := ob_el hf
    have hPc : va_P D vwCl (shW K q vw vk vr vp vb vi vwc vl vg vo vsc) H := hP.sub [1, 2, 3, 4, 5, 6, 7, 8, 9, 10] rfl
    have hDc : va_D A (shW K q vw vk vr vp vb vi vwc vl vg vo vsc) := hD.sub [1, 2, 3, 4, 5, 6, 7, 8, 9, 10] (by decide) rfl
    refine kcg_i (D := D) (wc := (shW K q vw vk vr vp vb vi vwc vl vg vo vsc)) (wc' := (shW K q vw vk vr vp vb vi vwc vl vg vo vsc)) (wr := [0].filterMap (fun i => (((xoW ax (q 0) zyearShop zimages zsigns zdays zmeans vsgc) ++ (shW K q vw vk vr vp vb vi vwc vl vg vo vsc)) : va_W)[i]?)) (ws2 := ((xoW ax (q 0) zyearShop zimages zsigns zdays zmeans vsgc) ++ (shW K q vw vk vr vp vb vi vwc vl vg vo vsc))) (va_runVN (As := [.int p0]) (rest := []) ⟨hx, hb, hml, hown, hts⟩ ((k_X3_weigh l D K q vw vk vr vp vb vi vwc vl vg vo vsc p0 o3 ho3) H.size) ⟨va_cnB 1 hts gX4_scales_X3_weigh_n124 rfl rfl rfl (hN _ (List.mem_of_getElem? (i := 51) rfl)) (hts (.initialized RX3) (List.mem_of_getElem? (i := 10) rfl)) yd_X3_weigh ⟨Nat.le_of_ble_eq_true rfl, Nat.le_of_ble_eq_true rfl⟩, (hts (.instanceMethod yX3_weigh) (List.mem_of_getElem? (i := 9) rfl)), (hts (.selects RX3 yX3_weigh yX3_weigh) (List.mem_of_getElem? (i := 11) rfl))⟩ (kPreV (ci := 3) (q0 := 1) hP rfl rfl hPc hDc hK hN) rfl rfl hl.1 rfl (lv_room (Nat.le_of_ble_eq_true rfl)) dX4_scales_12 ⟨Nat.le_of_ble_eq_true rfl, Nat.le_of_ble_eq_true rfl⟩) hP hD hS hA [1, 2, 3, 4, 5, 6, 7, 8, 9, 10] [0] [0, 1, 2, 3, 4, 5, 6, 7, 8, 9, 10] rfl rfl (by decide) (by decide) rfl (by decide) (fun hzo3 H locs hP hD hS => ?_)
    refine lv_goto (tgt := 20) hx hb dX4_scales_15 (by decide) ?_
    obtain rfl := Option.some.inj hf
    exact hret rfl rfl rfl hP hD hS dX4_scales_20
def f_X4_says (vk : Nat → Int32) (vb : Nat → Int32) (p0 : Int32) (p1 : Int32) : Option (Int64) := bd (f_X4_isSpeaker p0) (fun o1 => if o1 = 0 then (some (-1)) else (bd (f_X4_isWithin p1 (1) (8)) (fun o3 => if o3 = 0 then (some (-2)) else (chk p0 4 (ob (f_X3_countKind vk (vb (p0).toNatClampNeg) (0)) (fun o6 => ob (f_X3_countKind vk (vb (p0).toNatClampNeg) (1)) (fun o7 => ob (f_X3_countKind vk (vb (p0).toNatClampNeg) (2)) (fun o8 => if 2 ≤ p1 then (ob (f_X4_power o8.toInt64 (p1 - 2)) (fun o10 => if 3 ≤ p1 then (ob (f_X4_power o8.toInt64 (p1 - 3)) (fun o12 => some (((o10 * o6.toInt64) * o7.toInt64) + (((((p1 - 2).toInt64 * o12) * o6.toInt64) * o7.toInt64) * o6.toInt64)))) else (some (((o10 * o6.toInt64) * o7.toInt64) + 0)))) else (if 3 ≤ p1 then (ob (f_X4_power o8.toInt64 (p1 - 3)) (fun o14 => some (0 + (((((p1 - 2).toInt64 * o14) * o6.toInt64) * o7.toInt64) * o6.toInt64)))) else (some (0 + 0)))))))))))
theorem inX4_says_X3 : ∀ w ∈ wsX30, w ∈ wsX4_says := fun w h => List.mem_cons_of_mem _ (List.mem_append_right _ h)
theorem inX4_says_X4 : ∀ w ∈ wsX40, w ∈ wsX4_says := fun w h => List.mem_cons_of_mem _ (List.mem_append_left _ (List.mem_append_right _ h))
theorem yd_X4_says : yX4_says.cls ≠ "java/lang/invoke/MethodHandle" ∧ yX4_says.cls ≠ "java/lang/invoke/VarHandle" ∧ (parseMethodDescriptor yX4_says.desc).map (fun d => d.parameters.length) = some 2 := by decide +kernel
abbrev rmX4_says : Room := { frames := 2, cells := 0, slots := 0, locals := 45 }
set_option maxHeartbeats 4000000 in
set_option maxRecDepth 100000 in
theorem k_X4_says (l : Launch) (D : va_G) (K : Nat → ClassId) (ax : Nat) (q : Nat → Nat) (zyearShop : Nat) (zimages : Nat) (zsigns : Nat) (zdays : Nat) (zmeans : Nat) (vsgc : Int32) (vw : Nat → Int32) (vk : Nat → Int32) (vr : Nat → Int32) (vp : Nat → Int32) (vb : Nat → Int32) (vi : Nat → Int32) (vwc : Int32) (vl : Nat → Int32) (vg : Nat → Int32) (vo : Nat → Int32) (vsc : Int32) (p0 : Int32) (p1 : Int32) (out : Int64) (hf : f_X4_says vk vb p0 p1 = some out) : kL l D K yX4_says wsX4_says rmX4_says [.ref ax, .int p0, .int p1] ((xoW ax (q 0) zyearShop zimages zsigns zdays zmeans vsgc) ++ (shW K q vw vk vr vp vb vi vwc vl vg vo vsc)) out ((xoW ax (q 0) zyearShop zimages zsigns zdays zmeans vsgc) ++ (shW K q vw vk vr vp vb vi vwc vl vg vo vsc)) := by
  refine kL.of (cc := cX4_says) (maxL := 14) (by decide) rfl (Nat.le_of_ble_eq_true rfl) ?_
  intro p e s m args below meth c A H0 Q ls hx hb hml hown hts hK hN hA hP hD hS hl hret
  have hown : s.vm.findClass RX4 = some m.cls := hown
  have hl : lv_has ls 14 [(0, .ref ax), (1, .int p0), (2, .int p1)] := hl
  generalize hH : H0 = H at hP ⊢
  have hS : va_S A H0 H [] := by rw [← hH]; exact hS
  clear hH
  unfold f_X4_says at hf
  refine lv_iload_n hx hb dX4_says_0 rfl (lv_at hl 1 rfl) ?_
  obtain ⟨o1, ho1, hf⟩ := bd_el hf
  refine kc0_i (D := D) (va_runS (As := [.int p0]) (rest := []) ⟨hx, hb, hml, hown, hts⟩ ((k_X4_isSpeaker l D K p0 o1 ho1) H.size) (va_cwS 1 hts gX4_says_X4_isSpeaker rfl rfl rfl yd_X4_isSpeaker ⟨Nat.le_of_ble_eq_true rfl, Nat.le_of_ble_eq_true rfl⟩) (kPreS va_P_nil (va_D_nil (A := fun _ => True)) hK hN) rfl rfl hl.1 rfl (lv_room (Nat.le_of_ble_eq_true rfl)) dX4_says_1 ⟨Nat.le_of_ble_eq_true rfl, Nat.le_of_ble_eq_true rfl⟩) hP hS hA (fun hzo1 H locs hP hS => ?_)
  refine lv_if_ne (tgt := 11) hx hb dX4_says_4 (by decide) (fun c2 => ?_) (fun c2 => ?_)
  · rw [if_neg c2] at hf
    refine lv_iload_n hx hb dX4_says_11 rfl (lv_at hl 2 rfl) ?_
    refine lv_iconst (v := 1) hx hb dX4_says_12 (by decide) ?_
    refine lv_bipush (v := 8) hx hb dX4_says_13 (by decide) ?_
    obtain ⟨o3, ho3, hf⟩ := bd_el hf
    refine kc0_i (D := D) (va_runS (As := [.int p1, .int 1, .int 8]) (rest := []) ⟨hx, hb, hml, hown, hts⟩ ((k_X4_isWithin l D K p1 (1) (8) o3 ho3) H.size) (va_cwS 3 hts gX4_says_X4_isWithin rfl rfl rfl yd_X4_isWithin ⟨Nat.le_of_ble_eq_true rfl, Nat.le_of_ble_eq_true rfl⟩) (kPreS va_P_nil (va_D_nil (A := fun _ => True)) hK hN) rfl rfl hl.1 rfl (lv_room (Nat.le_of_ble_eq_true rfl)) dX4_says_15 ⟨Nat.le_of_ble_eq_true rfl, Nat.le_of_ble_eq_true rfl⟩) hP hS hA (fun hzo3 H locs hP hS => ?_)
    refine lv_if_ne (tgt := 25) hx hb dX4_says_18 (by decide) (fun c4 => ?_) (fun c4 => ?_)
    · rw [if_neg c4] at hf
      refine lv_aload_n hx hb dX4_says_25 rfl (lv_at hl 0 rfl) ?_
      refine va_get (D := D) (ci := 4) (v := .ref (q 0)) (C := RX4) (T := TX4) (N := 7) hx hb hts inX4_says_X4 hown hK hP 0 rfl rfl 0 (by decide) (hts (.fieldLink RX4 10 "WordScales" "shop" "LWordScales$Shop;") (List.mem_of_getElem? (i := 3) rfl)) (fun _ h9 => h9) rfl dX4_says_26 ?_
      refine va_getN (D := D) (host := "WordScales") (ci := 3) (v := .ref (q 5)) (C := RX3) (T := TX3) (N := 11) hx hb hts inX4_says_X3 hown hK hP 1 rfl rfl 4 (by decide) (va_Nw.use rfl (hN _ (List.mem_of_getElem? (i := 6) rfl))) (fun _ h9 => h9) rfl dX4_says_29 ?_
      refine lv_iload_n hx hb dX4_says_32 rfl (lv_at hl 1 rfl) ?_
      obtain ⟨v5, hf⟩ := chk_el hf
      refine va_iald (D := D) (f := vb) hx hb hK hP 6 0 rfl rfl v5 dX4_says_33 ?_
      refine lv_istore_n (lv' := [(3, .int (vb (p0).toNatClampNeg)), (0, .ref ax), (1, .int p0), (2, .int p1)]) hx hb dX4_says_34 rfl hl (by decide) rfl (fun ls hl => ?_)
      refine lv_aload_n hx hb dX4_says_35 rfl (lv_at hl 1 rfl) ?_
      refine va_get (D := D) (ci := 4) (v := .ref (q 0)) (C := RX4) (T := TX4) (N := 7) hx hb hts inX4_says_X4 hown hK hP 0 rfl rfl 0 (by decide) (hts (.fieldLink RX4 10 "WordScales" "shop" "LWordScales$Shop;") (List.mem_of_getElem? (i := 3) rfl)) (fun _ h9 => h9) rfl dX4_says_36 ?_
      refine lv_iload_n hx hb dX4_says_39 rfl (lv_at hl 0 rfl) ?_
      refine lv_iconst (v := 0) hx hb dX4_says_40 (by decide) ?_
      obtain ⟨o6, ho6, hf⟩ := ob_el hf
      have hPc : va_P D vwCl (shW K q vw vk vr vp vb vi vwc vl vg vo vsc) H := hP.sub [1, 2, 3, 4, 5, 6, 7, 8, 9, 10] rfl
      have hDc : va_D A (shW K q vw vk vr vp vb vi vwc vl vg vo vsc) := hD.sub [1, 2, 3, 4, 5, 6, 7, 8, 9, 10] (by decide) rfl
      refine kcg_i (D := D) (wc := (shW K q vw vk vr vp vb vi vwc vl vg vo vsc)) (wc' := (shW K q vw vk vr vp vb vi vwc vl vg vo vsc)) (wr := [0].filterMap (fun i => (((xoW ax (q 0) zyearShop zimages zsigns zdays zmeans vsgc) ++ (shW K q vw vk vr vp vb vi vwc vl vg vo vsc)) : va_W)[i]?)) (ws2 := ((xoW ax (q 0) zyearShop zimages zsigns zdays zmeans vsgc) ++ (shW K q vw vk vr vp vb vi vwc vl vg vo vsc))) (va_runVN (As := [.int (vb (p0).toNatClampNeg), .int 0]) (rest := []) ⟨hx, hb, hml, hown, hts⟩ ((k_X3_countKind l D K q vw vk vr vp vb vi vwc vl vg vo vsc (vb (p0).toNatClampNeg) (0) o6 ho6) H.size) ⟨va_cnB 2 hts gX4_says_X3_countKind_n131 rfl rfl rfl (hN _ (List.mem_of_getElem? (i := 52) rfl)) (hts (.initialized RX3) (List.mem_of_getElem? (i := 12) rfl)) yd_X3_countKind ⟨Nat.le_of_ble_eq_true rfl, Nat.le_of_ble_eq_true rfl⟩, (hts (.instanceMethod yX3_countKind) (List.mem_of_getElem? (i := 11) rfl)), (hts (.selects RX3 yX3_countKind yX3_countKind) (List.mem_of_getElem? (i := 13) rfl))⟩ (kPreV (ci := 3) (q0 := 1) hP rfl rfl hPc hDc hK hN) rfl rfl hl.1 rfl (lv_room (Nat.le_of_ble_eq_true rfl)) dX4_says_41 ⟨Nat.le_of_ble_eq_true rfl, Nat.le_of_ble_eq_true rfl⟩) hP hD hS hA [1, 2, 3, 4, 5, 6, 7, 8, 9, 10] [0] [0, 1, 2, 3, 4, 5, 6, 7, 8, 9, 10] rfl rfl (by decide) (by decide) rfl (by decide) (fun hzo6 H locs hP hD hS => ?_)
      refine lv_i2l (v := o6.toInt64) hx hb dX4_says_44 rfl ?_
      refine lv_lstore (lv' := [(4, .long o6.toInt64), (3, .int (vb (p0).toNatClampNeg)), (0, .ref ax), (1, .int p0), (2, .int p1)]) hx hb dX4_says_45 hl (by decide) rfl (fun ls hl => ?_)
      refine lv_aload_n hx hb dX4_says_47 rfl (lv_at hl 2 rfl) ?_
      refine va_get (D := D) (ci := 4) (v := .ref (q 0)) (C := RX4) (T := TX4) (N := 7) hx hb hts inX4_says_X4 hown hK hP 0 rfl rfl 0 (by decide) (hts (.fieldLink RX4 10 "WordScales" "shop" "LWordScales$Shop;") (List.mem_of_getElem? (i := 3) rfl)) (fun _ h9 => h9) rfl dX4_says_48 ?_
      refine lv_iload_n hx hb dX4_says_51 rfl (lv_at hl 1 rfl) ?_
      refine lv_iconst (v := 1) hx hb dX4_says_52 (by decide) ?_
      obtain ⟨o7, ho7, hf⟩ := ob_el hf
      have hPc : va_P D vwCl (shW K q vw vk vr vp vb vi vwc vl vg vo vsc) H := hP.sub [1, 2, 3, 4, 5, 6, 7, 8, 9, 10] rfl
      have hDc : va_D A (shW K q vw vk vr vp vb vi vwc vl vg vo vsc) := hD.sub [1, 2, 3, 4, 5, 6, 7, 8, 9, 10] (by decide) rfl
      refine kcg_i (D := D) (wc := (shW K q vw vk vr vp vb vi vwc vl vg vo vsc)) (wc' := (shW K q vw vk vr vp vb vi vwc vl vg vo vsc)) (wr := [0].filterMap (fun i => (((xoW ax (q 0) zyearShop zimages zsigns zdays zmeans vsgc) ++ (shW K q vw vk vr vp vb vi vwc vl vg vo vsc)) : va_W)[i]?)) (ws2 := ((xoW ax (q 0) zyearShop zimages zsigns zdays zmeans vsgc) ++ (shW K q vw vk vr vp vb vi vwc vl vg vo vsc))) (va_runVN (As := [.int (vb (p0).toNatClampNeg), .int 1]) (rest := []) ⟨hx, hb, hml, hown, hts⟩ ((k_X3_countKind l D K q vw vk vr vp vb vi vwc vl vg vo vsc (vb (p0).toNatClampNeg) (1) o7 ho7) H.size) ⟨va_cnB 2 hts gX4_says_X3_countKind_n131 rfl rfl rfl (hN _ (List.mem_of_getElem? (i := 52) rfl)) (hts (.initialized RX3) (List.mem_of_getElem? (i := 12) rfl)) yd_X3_countKind ⟨Nat.le_of_ble_eq_true rfl, Nat.le_of_ble_eq_true rfl⟩, (hts (.instanceMethod yX3_countKind) (List.mem_of_getElem? (i := 11) rfl)), (hts (.selects RX3 yX3_countKind yX3_countKind) (List.mem_of_getElem? (i := 13) rfl))⟩ (kPreV (ci := 3) (q0 := 1) hP rfl rfl hPc hDc hK hN) rfl rfl hl.1 rfl (lv_room (Nat.le_of_ble_eq_true rfl)) dX4_says_53 ⟨Nat.le_of_ble_eq_true rfl, Nat.le_of_ble_eq_true rfl⟩) hP hD hS hA [1, 2, 3, 4, 5, 6, 7, 8, 9, 10] [0] [0, 1, 2, 3, 4, 5, 6, 7, 8, 9, 10] rfl rfl (by decide) (by decide) rfl (by decide) (fun hzo7 H locs hP hD hS => ?_)
      refine lv_i2l (v := o7.toInt64) hx hb dX4_says_56 rfl ?_
      refine lv_lstore (lv' := [(6, .long o7.toInt64), (4, .long o6.toInt64), (3, .int (vb (p0).toNatClampNeg)), (0, .ref ax), (1, .int p0), (2, .int p1)]) hx hb dX4_says_57 hl (by decide) rfl (fun ls hl => ?_)
      refine lv_aload_n hx hb dX4_says_59 rfl (lv_at hl 3 rfl) ?_
      refine va_get (D := D) (ci := 4) (v := .ref (q 0)) (C := RX4) (T := TX4) (N := 7) hx hb hts inX4_says_X4 hown hK hP 0 rfl rfl 0 (by decide) (hts (.fieldLink RX4 10 "WordScales" "shop" "LWordScales$Shop;") (List.mem_of_getElem? (i := 3) rfl)) (fun _ h9 => h9) rfl dX4_says_60 ?_
      refine lv_iload_n hx hb dX4_says_63 rfl (lv_at hl 2 rfl) ?_
      refine lv_iconst (v := 2) hx hb dX4_says_64 (by decide) ?_
      obtain ⟨o8, ho8, hf⟩ := ob_el hf
      have hPc : va_P D vwCl (shW K q vw vk vr vp vb vi vwc vl vg vo vsc) H := hP.sub [1, 2, 3, 4, 5, 6, 7, 8, 9, 10] rfl
      have hDc : va_D A (shW K q vw vk vr vp vb vi vwc vl vg vo vsc) := hD.sub [1, 2, 3, 4, 5, 6, 7, 8, 9, 10] (by decide) rfl
      refine kcg_i (D := D) (wc := (shW K q vw vk vr vp vb vi vwc vl vg vo vsc)) (wc' := (shW K q vw vk vr vp vb vi vwc vl vg vo vsc)) (wr := [0].filterMap (fun i => (((xoW ax (q 0) zyearShop zimages zsigns zdays zmeans vsgc) ++ (shW K q vw vk vr vp vb vi vwc vl vg vo vsc)) : va_W)[i]?)) (ws2 := ((xoW ax (q 0) zyearShop zimages zsigns zdays zmeans vsgc) ++ (shW K q vw vk vr vp vb vi vwc vl vg vo vsc))) (va_runVN (As := [.int (vb (p0).toNatClampNeg), .int 2]) (rest := []) ⟨hx, hb, hml, hown, hts⟩ ((k_X3_countKind l D K q vw vk vr vp vb vi vwc vl vg vo vsc (vb (p0).toNatClampNeg) (2) o8 ho8) H.size) ⟨va_cnB 2 hts gX4_says_X3_countKind_n131 rfl rfl rfl (hN _ (List.mem_of_getElem? (i := 52) rfl)) (hts (.initialized RX3) (List.mem_of_getElem? (i := 12) rfl)) yd_X3_countKind ⟨Nat.le_of_ble_eq_true rfl, Nat.le_of_ble_eq_true rfl⟩, (hts (.instanceMethod yX3_countKind) (List.mem_of_getElem? (i := 11) rfl)), (hts (.selects RX3 yX3_countKind yX3_countKind) (List.mem_of_getElem? (i := 13) rfl))⟩ (kPreV (ci := 3) (q0 := 1) hP rfl rfl hPc hDc hK hN) rfl rfl hl.1 rfl (lv_room (Nat.le_of_ble_eq_true rfl)) dX4_says_65 ⟨Nat.le_of_ble_eq_true rfl, Nat.le_of_ble_eq_true rfl⟩) hP hD hS hA [1, 2, 3, 4, 5, 6, 7, 8, 9, 10] [0] [0, 1, 2, 3, 4, 5, 6, 7, 8, 9, 10] rfl rfl (by decide) (by decide) rfl (by decide) (fun hzo8 H locs hP hD hS => ?_)
      refine lv_i2l (v := o8.toInt64) hx hb dX4_says_68 rfl ?_
      refine lv_lstore (lv' := [(8, .long o8.toInt64), (6, .long o7.toInt64), (4, .long o6.toInt64), (3, .int (vb (p0).toNatClampNeg)), (0, .ref ax), (1, .int p0), (2, .int p1)]) hx hb dX4_says_69 hl (by decide) rfl (fun ls hl => ?_)
      refine lv_iload_n hx hb dX4_says_71 rfl (lv_at hl 6 rfl) ?_
      refine lv_iconst (v := 2) hx hb dX4_says_72 (by decide) ?_
      refine lv_icmp_ge (tgt := 80) hx hb dX4_says_73 (by decide) (fun c9 => ?_) (fun c9 => ?_)
      · rw [if_pos c9] at hf
        refine lv_lload hx hb dX4_says_80 (lv_at hl 0 rfl) ?_
        refine lv_iload_n hx hb dX4_says_82 rfl (lv_at hl 6 rfl) ?_
        refine lv_iconst (v := 2) hx hb dX4_says_83 (by decide) ?_
        refine lv_isub hx hb dX4_says_84 ?_
        obtain ⟨o10, ho10, hf⟩ := ob_el hf
        refine kc0_l (D := D) (va_runS (As := [.long o8.toInt64, .int (p1 - 2)]) (rest := []) ⟨hx, hb, hml, hown, hts⟩ ((k_X4_power l D K o8.toInt64 (p1 - 2) o10 ho10) H.size) (va_cwS 2 hts gX4_says_X4_power rfl rfl rfl yd_X4_power ⟨Nat.le_of_ble_eq_true rfl, Nat.le_of_ble_eq_true rfl⟩) (kPreS va_P_nil (va_D_nil (A := fun _ => True)) hK hN) rfl rfl hl.1 rfl (lv_room (Nat.le_of_ble_eq_true rfl)) dX4_says_85 ⟨Nat.le_of_ble_eq_true rfl, Nat.le_of_ble_eq_true rfl⟩) hP hS hA (fun H locs hP hS => ?_)
        refine lv_lload hx hb dX4_says_88 (lv_at hl 2 rfl) ?_
        refine lv_lmul hx hb dX4_says_90 ?_
        refine lv_lload hx hb dX4_says_91 (lv_at hl 1 rfl) ?_
        refine lv_lmul hx hb dX4_says_93 ?_
        refine lv_lstore (lv' := [(10, .long ((o10 * o6.toInt64) * o7.toInt64)), (8, .long o8.toInt64), (6, .long o7.toInt64), (4, .long o6.toInt64), (3, .int (vb (p0).toNatClampNeg)), (0, .ref ax), (1, .int p0), (2, .int p1)]) hx hb dX4_says_94 hl (by decide) rfl (fun ls hl => ?_)
        refine lv_iload_n hx hb dX4_says_96 rfl (lv_at hl 7 rfl) ?_
        refine lv_iconst (v := 3) hx hb dX4_says_97 (by decide) ?_
        refine lv_icmp_ge (tgt := 105) hx hb dX4_says_98 (by decide) (fun c11 => ?_) (fun c11 => ?_)
        · rw [if_pos c11] at hf
          refine lv_iload_n hx hb dX4_says_105 rfl (lv_at hl 7 rfl) ?_
          refine lv_iconst (v := 2) hx hb dX4_says_106 (by decide) ?_
          refine lv_isub hx hb dX4_says_107 ?_
          refine lv_i2l (v := (p1 - 2).toInt64) hx hb dX4_says_108 rfl ?_
          refine lv_lload hx hb dX4_says_109 (lv_at hl 1 rfl) ?_
          refine lv_iload_n hx hb dX4_says_111 rfl (lv_at hl 7 rfl) ?_
          refine lv_iconst (v := 3) hx hb dX4_says_112 (by decide) ?_
          refine lv_isub hx hb dX4_says_113 ?_
          obtain ⟨o12, ho12, hf⟩ := ob_el hf
          refine kc0_l (D := D) (va_runS (As := [.long o8.toInt64, .int (p1 - 3)]) (rest := [.long ((p1 - 2).toInt64)]) ⟨hx, hb, hml, hown, hts⟩ ((k_X4_power l D K o8.toInt64 (p1 - 3) o12 ho12) H.size) (va_cwS 2 hts gX4_says_X4_power rfl rfl rfl yd_X4_power ⟨Nat.le_of_ble_eq_true rfl, Nat.le_of_ble_eq_true rfl⟩) (kPreS va_P_nil (va_D_nil (A := fun _ => True)) hK hN) rfl rfl hl.1 rfl (lv_room (Nat.le_of_ble_eq_true rfl)) dX4_says_114 ⟨Nat.le_of_ble_eq_true rfl, Nat.le_of_ble_eq_true rfl⟩) hP hS hA (fun H locs hP hS => ?_)
          refine lv_lmul hx hb dX4_says_117 ?_
          refine lv_lload hx hb dX4_says_118 (lv_at hl 3 rfl) ?_
          refine lv_lmul hx hb dX4_says_120 ?_
          refine lv_lload hx hb dX4_says_121 (lv_at hl 2 rfl) ?_
          refine lv_lmul hx hb dX4_says_123 ?_
          refine lv_lload hx hb dX4_says_124 (lv_at hl 3 rfl) ?_
          refine lv_lmul hx hb dX4_says_126 ?_
          refine lv_lstore (lv' := [(12, .long (((((p1 - 2).toInt64 * o12) * o6.toInt64) * o7.toInt64) * o6.toInt64)), (10, .long ((o10 * o6.toInt64) * o7.toInt64)), (8, .long o8.toInt64), (6, .long o7.toInt64), (4, .long o6.toInt64), (3, .int (vb (p0).toNatClampNeg)), (0, .ref ax), (1, .int p0), (2, .int p1)]) hx hb dX4_says_127 hl (by decide) rfl (fun ls hl => ?_)
          refine lv_lload hx hb dX4_says_129 (lv_at hl 1 rfl) ?_
          refine lv_lload hx hb dX4_says_131 (lv_at hl 0 rfl) ?_
          refine lv_ladd hx hb dX4_says_133 ?_
          obtain rfl := Option.some.inj hf
          exact hret rfl rfl hP hD hS dX4_says_134
        · rw [if_neg c11] at hf
          refine lv_lconst (v := 0) hx hb dX4_says_101 (by decide) ?_
          refine lv_goto (tgt := 127) hx hb dX4_says_102 (by decide) ?_
          refine lv_lstore (lv' := [(12, .long 0), (10, .long ((o10 * o6.toInt64) * o7.toInt64)), (8, .long o8.toInt64), (6, .long o7.toInt64), (4, .long o6.toInt64), (3, .int (vb (p0).toNatClampNeg)), (0, .ref ax), (1, .int p0), (2, .int p1)]) hx hb dX4_says_127 hl (by decide) rfl (fun ls hl => ?_)
          refine lv_lload hx hb dX4_says_129 (lv_at hl 1 rfl) ?_
          refine lv_lload hx hb dX4_says_131 (lv_at hl 0 rfl) ?_
          refine lv_ladd hx hb dX4_says_133 ?_
          obtain rfl := Option.some.inj hf
          exact hret rfl rfl hP hD hS dX4_says_134
      · rw [if_neg c9] at hf
        refine lv_lconst (v := 0) hx hb dX4_says_76 (by decide) ?_
        refine lv_goto (tgt := 94) hx hb dX4_says_77 (by decide) ?_
        refine lv_lstore (lv' := [(10, .long 0), (8, .long o8.toInt64), (6, .long o7.toInt64), (4, .long o6.toInt64), (3, .int (vb (p0).toNatClampNeg)), (0, .ref ax), (1, .int p0), (2, .int p1)]) hx hb dX4_says_94 hl (by decide) rfl (fun ls hl => ?_)
        refine lv_iload_n hx hb dX4_says_96 rfl (lv_at hl 7 rfl) ?_
        refine lv_iconst (v := 3) hx hb dX4_says_97 (by decide) ?_
        refine lv_icmp_ge (tgt := 105) hx hb dX4_says_98 (by decide) (fun c13 => ?_) (fun c13 => ?_)
        · rw [if_pos c13] at hf
          refine lv_iload_n hx hb dX4_says_105 rfl (lv_at hl 7 rfl) ?_
          refine lv_iconst (v := 2) hx hb dX4_says_106 (by decide) ?_
          refine lv_isub hx hb dX4_says_107 ?_
          refine lv_i2l (v := (p1 - 2).toInt64) hx hb dX4_says_108 rfl ?_
          refine lv_lload hx hb dX4_says_109 (lv_at hl 1 rfl) ?_
          refine lv_iload_n hx hb dX4_says_111 rfl (lv_at hl 7 rfl) ?_
          refine lv_iconst (v := 3) hx hb dX4_says_112 (by decide) ?_
          refine lv_isub hx hb dX4_says_113 ?_
          obtain ⟨o14, ho14, hf⟩ := ob_el hf
          refine kc0_l (D := D) (va_runS (As := [.long o8.toInt64, .int (p1 - 3)]) (rest := [.long ((p1 - 2).toInt64)]) ⟨hx, hb, hml, hown, hts⟩ ((k_X4_power l D K o8.toInt64 (p1 - 3) o14 ho14) H.size) (va_cwS 2 hts gX4_says_X4_power rfl rfl rfl yd_X4_power ⟨Nat.le_of_ble_eq_true rfl, Nat.le_of_ble_eq_true rfl⟩) (kPreS va_P_nil (va_D_nil (A := fun _ => True)) hK hN) rfl rfl hl.1 rfl (lv_room (Nat.le_of_ble_eq_true rfl)) dX4_says_114 ⟨Nat.le_of_ble_eq_true rfl, Nat.le_of_ble_eq_true rfl⟩) hP hS hA (fun H locs hP hS => ?_)
          refine lv_lmul hx hb dX4_says_117 ?_
          refine lv_lload hx hb dX4_says_118 (lv_at hl 3 rfl) ?_
          refine lv_lmul hx hb dX4_says_120 ?_
          refine lv_lload hx hb dX4_says_121 (lv_at hl 2 rfl) ?_
          refine lv_lmul hx hb dX4_says_123 ?_
          refine lv_lload hx hb dX4_says_124 (lv_at hl 3 rfl) ?_
          refine lv_lmul hx hb dX4_says_126 ?_
          refine lv_lstore (lv' := [(12, .long (((((p1 - 2).toInt64 * o14) * o6.toInt64) * o7.toInt64) * o6.toInt64)), (10, .long 0), (8, .long o8.toInt64), (6, .long o7.toInt64), (4, .long o6.toInt64), (3, .int (vb (p0).toNatClampNeg)), (0, .ref ax), (1, .int p0), (2, .int p1)]) hx hb dX4_says_127 hl (by decide) rfl (fun ls hl => ?_)
          refine lv_lload hx hb dX4_says_129 (lv_at hl 1 rfl) ?_
          refine lv_lload hx hb dX4_says_131 (lv_at hl 0 rfl) ?_
          refine lv_ladd hx hb dX4_says_133 ?_
          obtain rfl := Option.some.inj hf
          exact hret rfl rfl hP hD hS dX4_says_134
        · rw [if_neg c13] at hf
          refine lv_lconst (v := 0) hx hb dX4_says_101 (by decide) ?_
          refine lv_goto (tgt := 127) hx hb dX4_says_102 (by decide) ?_
          refine lv_lstore (lv' := [(12, .long 0), (10, .long 0), (8, .long o8.toInt64), (6, .long o7.toInt64), (4, .long o6.toInt64), (3, .int (vb (p0).toNatClampNeg)), (0, .ref ax), (1, .int p0), (2, .int p1)]) hx hb dX4_says_127 hl (by decide) rfl (fun ls hl => ?_)
          refine lv_lload hx hb dX4_says_129 (lv_at hl 1 rfl) ?_
          refine lv_lload hx hb dX4_says_131 (lv_at hl 0 rfl) ?_
          refine lv_ladd hx hb dX4_says_133 ?_
          obtain rfl := Option.some.inj hf
          exact hret rfl rfl hP hD hS dX4_says_134
    · rw [if_pos c4] at hf
      refine lv_ldc2 hx hb hown (hts (.constantLong RX4 129 (-2)) (List.mem_of_getElem? (i := 2) rfl)) dX4_says_21 ?_
      obtain rfl := Option.some.inj hf
      exact hret rfl rfl hP hD hS dX4_says_24
  · rw [if_pos c2] at hf
    refine lv_ldc2 hx hb hown (hts (.constantLong RX4 127 (-1)) (List.mem_of_getElem? (i := 1) rfl)) dX4_says_7 ?_
    obtain rfl := Option.some.inj hf
    exact hret rfl rfl hP hD hS dX4_says_10
def s_X4_cheapestSentence_29 (vw : Nat → Int32) (p0 : Int32) (p1 : Int32) (o1 : Int32) (o2 : Int32) (x : Int32 × Int32 × Int32) : Option ((Int32 × Int32 × Int32) ⊕ (Int32 × Int32 × Int32)) := if 4095 < x.2.2 then (some (.inr (x.1, x.2.1, x.2.2))) else (bd (f_J6_bitCount_0f7a4 x.2.2) (fun o5 => if o5 = p1 then (bd (f_J6_bitCount_0f7a4 (x.2.2 &&& o2)) (fun o7 => if o7 = 1 then (bd (f_J6_bitCount_0f7a4 (x.2.2 &&& o1)) (fun o9 => bd (f_X4_isWithin o9 (1) (2)) (fun o10 => if o10 = 0 then (some (.inl (x.1, x.2.1, (x.2.2 + 1)))) else (ob (f_X3_priceOf vw (x.2.2 &&& (p0 ^^^ (-1)))) (fun o12 => if x.1 = (-6) then (some (.inl (x.2.2, o12, (x.2.2 + 1)))) else (if x.2.1 ≤ o12 then (some (.inl (x.1, x.2.1, (x.2.2 + 1)))) else (some (.inl (x.2.2, o12, (x.2.2 + 1)))))))))) else (some (.inl (x.1, x.2.1, (x.2.2 + 1)))))) else (some (.inl (x.1, x.2.1, (x.2.2 + 1))))))
def f_X4_cheapestSentence (vw : Nat → Int32) (vk : Nat → Int32) (p0 : Int32) (p1 : Int32) : Option (Int32) := ob (f_X3_ofKind vk (0)) (fun o1 => ob (f_X3_ofKind vk (1)) (fun o2 => ob (wh (s_X4_cheapestSentence_29 vw p0 p1 o1 o2) 5000 ((-6), 0, 0)) (fun r3 => some r3.1)))
theorem inX4_cheapestSentence_X4 : ∀ w ∈ wsX40, w ∈ wsX4_cheapestSentence := fun w h => List.mem_cons_of_mem _ (List.mem_append_left _ (List.mem_append_right _ h))
theorem yd_X4_cheapestSentence : yX4_cheapestSentence.cls ≠ "java/lang/invoke/MethodHandle" ∧ yX4_cheapestSentence.cls ≠ "java/lang/invoke/VarHandle" ∧ (parseMethodDescriptor yX4_cheapestSentence.desc).map (fun d => d.parameters.length) = some 2 := by decide +kernel
abbrev rmX4_cheapestSentence : Room := { frames := 2, cells := 0, slots := 0, locals := 44 }
set_option maxHeartbeats 4000000 in
set_option maxRecDepth 100000 in
theorem k_X4_cheapestSentence (l : Launch) (D : va_G) (K : Nat → ClassId) (ax : Nat) (q : Nat → Nat) (zyearShop : Nat) (zimages : Nat) (zsigns : Nat) (zdays : Nat) (zmeans : Nat) (vsgc : Int32) (vw : Nat → Int32) (vk : Nat → Int32) (vr : Nat → Int32) (vp : Nat → Int32) (vb : Nat → Int32) (vi : Nat → Int32) (vwc : Int32) (vl : Nat → Int32) (vg : Nat → Int32) (vo : Nat → Int32) (vsc : Int32) (p0 : Int32) (p1 : Int32) (out : Int32) (hf : f_X4_cheapestSentence vw vk p0 p1 = some out) : kI l D K .int yX4_cheapestSentence wsX4_cheapestSentence rmX4_cheapestSentence [.ref ax, .int p0, .int p1] ((xoW ax (q 0) zyearShop zimages zsigns zdays zmeans vsgc) ++ (shW K q vw vk vr vp vb vi vwc vl vg vo vsc)) out ((xoW ax (q 0) zyearShop zimages zsigns zdays zmeans vsgc) ++ (shW K q vw vk vr vp vb vi vwc vl vg vo vsc)) := by
  refine kI.of (cc := cX4_cheapestSentence) (maxL := 9) (by decide) rfl (Nat.le_of_ble_eq_true rfl) ?_
  intro p e s m args below meth c A H0 Q ls hx hb hml hown hts hK hN hA hP hD hS hl hret
  have hown : s.vm.findClass RX4 = some m.cls := hown
  have hl : lv_has ls 9 [(0, .ref ax), (1, .int p0), (2, .int p1)] := hl
  generalize hH : H0 = H at hP ⊢
  have hS : va_S A H0 H [] := by rw [← hH]; exact hS
  clear hH
  unfold f_X4_cheapestSentence at hf
  refine lv_aload_n hx hb dX4_cheapestSentence_0 rfl (lv_at hl 0 rfl) ?_
  refine va_get (D := D) (ci := 4) (v := .ref (q 0)) (C := RX4) (T := TX4) (N := 7) hx hb hts inX4_cheapestSentence_X4 hown hK hP 0 rfl rfl 0 (by decide) (hts (.fieldLink RX4 10 "WordScales" "shop" "LWordScales$Shop;") (List.mem_of_getElem? (i := 1) rfl)) (fun _ h9 => h9) rfl dX4_cheapestSentence_1 ?_
  refine lv_iconst (v := 0) hx hb dX4_cheapestSentence_4 (by decide) ?_
  obtain ⟨o1, ho1, hf⟩ := ob_el hf
  have hPc : va_P D vwCl (shW K q vw vk vr vp vb vi vwc vl vg vo vsc) H := hP.sub [1, 2, 3, 4, 5, 6, 7, 8, 9, 10] rfl
  have hDc : va_D A (shW K q vw vk vr vp vb vi vwc vl vg vo vsc) := hD.sub [1, 2, 3, 4, 5, 6, 7, 8, 9, 10] (by decide) rfl
  refine kcg_i (D := D) (wc := (shW K q vw vk vr vp vb vi vwc vl vg vo vsc)) (wc' := (shW K q vw vk vr vp vb vi vwc vl vg vo vsc)) (wr := [0].filterMap (fun i => (((xoW ax (q 0) zyearShop zimages zsigns zdays zmeans vsgc) ++ (shW K q vw vk vr vp vb vi vwc vl vg vo vsc)) : va_W)[i]?)) (ws2 := ((xoW ax (q 0) zyearShop zimages zsigns zdays zmeans vsgc) ++ (shW K q vw vk vr vp vb vi vwc vl vg vo vsc))) (va_runVN (As := [.int 0]) (rest := []) ⟨hx, hb, hml, hown, hts⟩ ((k_X3_ofKind l D K q vw vk vr vp vb vi vwc vl vg vo vsc (0) o1 ho1) H.size) ⟨va_cnB 1 hts gX4_cheapestSentence_X3_ofKind_n210 rfl rfl rfl (hN _ (List.mem_of_getElem? (i := 53) rfl)) (hts (.initialized RX3) (List.mem_of_getElem? (i := 3) rfl)) yd_X3_ofKind ⟨Nat.le_of_ble_eq_true rfl, Nat.le_of_ble_eq_true rfl⟩, (hts (.instanceMethod yX3_ofKind) (List.mem_of_getElem? (i := 2) rfl)), (hts (.selects RX3 yX3_ofKind yX3_ofKind) (List.mem_of_getElem? (i := 4) rfl))⟩ (kPreV (ci := 3) (q0 := 1) hP rfl rfl hPc hDc hK hN) rfl rfl hl.1 rfl (lv_room (Nat.le_of_ble_eq_true rfl)) dX4_cheapestSentence_5 ⟨Nat.le_of_ble_eq_true rfl, Nat.le_of_ble_eq_true rfl⟩) hP hD hS hA [1, 2, 3, 4, 5, 6, 7, 8, 9, 10] [0] [0, 1, 2, 3, 4, 5, 6, 7, 8, 9, 10] rfl rfl (by decide) (by decide) rfl (by decide) (fun hzo1 H locs hP hD hS => ?_)
  refine lv_istore_n (lv' := [(3, .int o1), (0, .ref ax), (1, .int p0), (2, .int p1)]) hx hb dX4_cheapestSentence_8 rfl hl (by decide) rfl (fun ls hl => ?_)
  refine lv_aload_n hx hb dX4_cheapestSentence_9 rfl (lv_at hl 1 rfl) ?_
  refine va_get (D := D) (ci := 4) (v := .ref (q 0)) (C := RX4) (T := TX4) (N := 7) hx hb hts inX4_cheapestSentence_X4 hown hK hP 0 rfl rfl 0 (by decide) (hts (.fieldLink RX4 10 "WordScales" "shop" "LWordScales$Shop;") (List.mem_of_getElem? (i := 1) rfl)) (fun _ h9 => h9) rfl dX4_cheapestSentence_10 ?_
  refine lv_iconst (v := 1) hx hb dX4_cheapestSentence_13 (by decide) ?_
  obtain ⟨o2, ho2, hf⟩ := ob_el hf
  have hPc : va_P D vwCl (shW K q vw vk vr vp vb vi vwc vl vg vo vsc) H := hP.sub [1, 2, 3, 4, 5, 6, 7, 8, 9, 10] rfl
  have hDc : va_D A (shW K q vw vk vr vp vb vi vwc vl vg vo vsc) := hD.sub [1, 2, 3, 4, 5, 6, 7, 8, 9, 10] (by decide) rfl
  refine kcg_i (D := D) (wc := (shW K q vw vk vr vp vb vi vwc vl vg vo vsc)) (wc' := (shW K q vw vk vr vp vb vi vwc vl vg vo vsc)) (wr := [0].filterMap (fun i => (((xoW ax (q 0) zyearShop zimages zsigns zdays zmeans vsgc) ++ (shW K q vw vk vr vp vb vi vwc vl vg vo vsc)) : va_W)[i]?)) (ws2 := ((xoW ax (q 0) zyearShop zimages zsigns zdays zmeans vsgc) ++ (shW K q vw vk vr vp vb vi vwc vl vg vo vsc))) (va_runVN (As := [.int 1]) (rest := []) ⟨hx, hb, hml, hown, hts⟩ ((k_X3_ofKind l D K q vw vk vr vp vb vi vwc vl vg vo vsc (1) o2 ho2) H.size) ⟨va_cnB 1 hts gX4_cheapestSentence_X3_ofKind_n210 rfl rfl rfl (hN _ (List.mem_of_getElem? (i := 53) rfl)) (hts (.initialized RX3) (List.mem_of_getElem? (i := 3) rfl)) yd_X3_ofKind ⟨Nat.le_of_ble_eq_true rfl, Nat.le_of_ble_eq_true rfl⟩, (hts (.instanceMethod yX3_ofKind) (List.mem_of_getElem? (i := 2) rfl)), (hts (.selects RX3 yX3_ofKind yX3_ofKind) (List.mem_of_getElem? (i := 4) rfl))⟩ (kPreV (ci := 3) (q0 := 1) hP rfl rfl hPc hDc hK hN) rfl rfl hl.1 rfl (lv_room (Nat.le_of_ble_eq_true rfl)) dX4_cheapestSentence_14 ⟨Nat.le_of_ble_eq_true rfl, Nat.le_of_ble_eq_true rfl⟩) hP hD hS hA [1, 2, 3, 4, 5, 6, 7, 8, 9, 10] [0] [0, 1, 2, 3, 4, 5, 6, 7, 8, 9, 10] rfl rfl (by decide) (by decide) rfl (by decide) (fun hzo2 H locs hP hD hS => ?_)
  refine lv_istore (lv' := [(4, .int o2), (3, .int o1), (0, .ref ax), (1, .int p0), (2, .int p1)]) hx hb dX4_cheapestSentence_17 hl (by decide) rfl (fun ls hl => ?_)
  refine lv_bipush (v := (-6)) hx hb dX4_cheapestSentence_19 (by decide) ?_
  refine lv_istore (lv' := [(5, .int (-6)), (4, .int o2), (3, .int o1), (0, .ref ax), (1, .int p0), (2, .int p1)]) hx hb dX4_cheapestSentence_21 hl (by decide) rfl (fun ls hl => ?_)
  refine lv_iconst (v := 0) hx hb dX4_cheapestSentence_23 (by decide) ?_
  refine lv_istore (lv' := [(6, .int 0), (5, .int (-6)), (4, .int o2), (3, .int o1), (0, .ref ax), (1, .int p0), (2, .int p1)]) hx hb dX4_cheapestSentence_24 hl (by decide) rfl (fun ls hl => ?_)
  refine lv_iconst (v := 0) hx hb dX4_cheapestSentence_26 (by decide) ?_
  refine lv_istore (lv' := [(7, .int 0), (6, .int 0), (5, .int (-6)), (4, .int o2), (3, .int o1), (0, .ref ax), (1, .int p0), (2, .int p1)]) hx hb dX4_cheapestSentence_27 hl (by decide) rfl (fun ls hl => ?_)
  obtain ⟨r3, hr3, hf⟩ := ob_el hf
  have post29 : ∀ (e29_l5 : Int32) (e29_l6 : Int32) (e29_l7 : Int32) (H : Heap) (locs : List Loc) (ls : Array Slot), (some e29_l5) = some out → va_P D vwCl ((xoW ax (q 0) zyearShop zimages zsigns zdays zmeans vsgc) ++ (shW K q vw vk vr vp vb vi vwc vl vg vo vsc)) H → va_D A ((xoW ax (q 0) zyearShop zimages zsigns zdays zmeans vsgc) ++ (shW K q vw vk vr vp vb vi vwc vl vg vo vsc)) → va_S A H0 H locs → lv_has ls 9 [(7, .int e29_l7), (6, .int e29_l6), (5, .int e29_l5), (4, .int o2), (3, .int o1), (0, .ref ax), (1, .int p0), (2, .int p1)] → W p l e rmX4_cheapestSentence s m args below meth c H locs 0 0 Q (F0 m 116 ls []) := by
    intro e29_l5 e29_l6 e29_l7 H locs ls hf hP hD hS hl
    refine lv_iload hx hb dX4_cheapestSentence_116 (lv_at hl 2 rfl) ?_
    obtain rfl := Option.some.inj hf
    exact hret rfl rfl rfl hP hD hS dX4_cheapestSentence_118
  have lp29 : ∀ (fu : Nat) (x29_l5 : Int32) (x29_l6 : Int32) (x29_l7 : Int32) (H : Heap) (locs : List Loc) (ls : Array Slot), wh (s_X4_cheapestSentence_29 vw p0 p1 o1 o2) fu (x29_l5, x29_l6, x29_l7) = some r3 → va_P D vwCl ((xoW ax (q 0) zyearShop zimages zsigns zdays zmeans vsgc) ++ (shW K q vw vk vr vp vb vi vwc vl vg vo vsc)) H → va_D A ((xoW ax (q 0) zyearShop zimages zsigns zdays zmeans vsgc) ++ (shW K q vw vk vr vp vb vi vwc vl vg vo vsc)) → va_S A H0 H locs → lv_has ls 9 [(7, .int x29_l7), (6, .int x29_l6), (5, .int x29_l5), (4, .int o2), (3, .int o1), (0, .ref ax), (1, .int p0), (2, .int p1)] → W p l e rmX4_cheapestSentence s m args below meth c H locs 0 0 Q (F0 m 29 ls []) := by
    intro fu
    induction fu with
    | zero => intro x29_l5 x29_l6 x29_l7 H locs ls hw29; cases hw29
    | succ fu ih29 =>
      intro x29_l5 x29_l6 x29_l7 H locs ls hw29 hP hD hS hl
      obtain ⟨o29_, hs29, hw29⟩ := wh_el hw29
      unfold s_X4_cheapestSentence_29 at hs29
      dsimp only at hs29
      refine lv_iload hx hb dX4_cheapestSentence_29 (lv_at hl 0 rfl) ?_
      refine lv_sipush (v := 4095) hx hb dX4_cheapestSentence_31 (by decide) ?_
      refine lv_icmp_gt (tgt := 116) hx hb dX4_cheapestSentence_34 (by decide) (fun c4 => ?_) (fun c4 => ?_)
      · rw [if_pos c4] at hs29
        obtain rfl := Option.some.inj hs29
        have e9 := Option.some.inj hw29
        rw [← e9] at hf
        exact post29 _ _ _ _ _ _ hf hP hD hS (lv_sub hl [0, 1, 2, 3, 4, 5, 6, 7] rfl)
      · rw [if_neg c4] at hs29
        refine lv_iload hx hb dX4_cheapestSentence_37 (lv_at hl 0 rfl) ?_
        obtain ⟨o5, ho5, hs29⟩ := bd_el hs29
        refine kc0_i (D := D) (va_runS (As := [.int x29_l7]) (rest := []) ⟨hx, hb, hml, hown, hts⟩ ((k_J6_bitCount_0f7a4 l D K x29_l7 o5 ho5) H.size) (va_cwS 1 hts gX4_cheapestSentence_J6_bitCount_0f7a4 rfl rfl rfl yd_J6_bitCount_0f7a4 ⟨Nat.le_of_ble_eq_true rfl, Nat.le_of_ble_eq_true rfl⟩) (kPreS va_P_nil (va_D_nil (A := fun _ => True)) hK hN) rfl rfl hl.1 rfl (lv_room (Nat.le_of_ble_eq_true rfl)) dX4_cheapestSentence_39 ⟨Nat.le_of_ble_eq_true rfl, Nat.le_of_ble_eq_true rfl⟩) hP hS hA (fun hzo5 H locs hP hS => ?_)
        refine lv_iload_n hx hb dX4_cheapestSentence_42 rfl (lv_at hl 7 rfl) ?_
        refine lv_icmp_ne (tgt := 110) hx hb dX4_cheapestSentence_43 (by decide) (fun c6 => ?_) (fun c6 => ?_)
        · rw [if_neg c6] at hs29
          refine lv_iinc (v := (x29_l7 + 1)) (lv' := [(7, .int (x29_l7 + 1)), (6, .int x29_l6), (5, .int x29_l5), (4, .int o2), (3, .int o1), (0, .ref ax), (1, .int p0), (2, .int p1)]) hx hb dX4_cheapestSentence_110 hl (k := 0) rfl (by rfl) (by decide) rfl (fun ls hl => ?_)
          refine lv_goto (tgt := 29) hx hb dX4_cheapestSentence_113 (by decide) ?_
          obtain rfl := Option.some.inj hs29
          exact ih29 _ _ _ _ _ _ hw29 hP hD hS (lv_sub hl [0, 1, 2, 3, 4, 5, 6, 7] rfl)
        · rw [if_pos c6] at hs29
          refine lv_iload hx hb dX4_cheapestSentence_46 (lv_at hl 0 rfl) ?_
          refine lv_iload hx hb dX4_cheapestSentence_48 (lv_at hl 3 rfl) ?_
          refine lv_iand hx hb dX4_cheapestSentence_50 ?_
          obtain ⟨o7, ho7, hs29⟩ := bd_el hs29
          refine kc0_i (D := D) (va_runS (As := [.int (x29_l7 &&& o2)]) (rest := []) ⟨hx, hb, hml, hown, hts⟩ ((k_J6_bitCount_0f7a4 l D K (x29_l7 &&& o2) o7 ho7) H.size) (va_cwS 1 hts gX4_cheapestSentence_J6_bitCount_0f7a4 rfl rfl rfl yd_J6_bitCount_0f7a4 ⟨Nat.le_of_ble_eq_true rfl, Nat.le_of_ble_eq_true rfl⟩) (kPreS va_P_nil (va_D_nil (A := fun _ => True)) hK hN) rfl rfl hl.1 rfl (lv_room (Nat.le_of_ble_eq_true rfl)) dX4_cheapestSentence_51 ⟨Nat.le_of_ble_eq_true rfl, Nat.le_of_ble_eq_true rfl⟩) hP hS hA (fun hzo7 H locs hP hS => ?_)
          refine lv_iconst (v := 1) hx hb dX4_cheapestSentence_54 (by decide) ?_
          refine lv_icmp_ne (tgt := 110) hx hb dX4_cheapestSentence_55 (by decide) (fun c8 => ?_) (fun c8 => ?_)
          · rw [if_neg c8] at hs29
            refine lv_iinc (v := (x29_l7 + 1)) (lv' := [(7, .int (x29_l7 + 1)), (6, .int x29_l6), (5, .int x29_l5), (4, .int o2), (3, .int o1), (0, .ref ax), (1, .int p0), (2, .int p1)]) hx hb dX4_cheapestSentence_110 hl (k := 0) rfl (by rfl) (by decide) rfl (fun ls hl => ?_)
            refine lv_goto (tgt := 29) hx hb dX4_cheapestSentence_113 (by decide) ?_
            obtain rfl := Option.some.inj hs29
            exact ih29 _ _ _ _ _ _ hw29 hP hD hS (lv_sub hl [0, 1, 2, 3, 4, 5, 6, 7] rfl)
          · rw [if_pos c8] at hs29
            refine lv_iload hx hb dX4_cheapestSentence_58 (lv_at hl 0 rfl) ?_
            refine lv_iload_n hx hb dX4_cheapestSentence_60 rfl (lv_at hl 4 rfl) ?_
            refine lv_iand hx hb dX4_cheapestSentence_61 ?_
            obtain ⟨o9, ho9, hs29⟩ := bd_el hs29
            refine kc0_i (D := D) (va_runS (As := [.int (x29_l7 &&& o1)]) (rest := []) ⟨hx, hb, hml, hown, hts⟩ ((k_J6_bitCount_0f7a4 l D K (x29_l7 &&& o1) o9 ho9) H.size) (va_cwS 1 hts gX4_cheapestSentence_J6_bitCount_0f7a4 rfl rfl rfl yd_J6_bitCount_0f7a4 ⟨Nat.le_of_ble_eq_true rfl, Nat.le_of_ble_eq_true rfl⟩) (kPreS va_P_nil (va_D_nil (A := fun _ => True)) hK hN) rfl rfl hl.1 rfl (lv_room (Nat.le_of_ble_eq_true rfl)) dX4_cheapestSentence_62 ⟨Nat.le_of_ble_eq_true rfl, Nat.le_of_ble_eq_true rfl⟩) hP hS hA (fun hzo9 H locs hP hS => ?_)
            refine lv_iconst (v := 1) hx hb dX4_cheapestSentence_65 (by decide) ?_
            refine lv_iconst (v := 2) hx hb dX4_cheapestSentence_66 (by decide) ?_
            obtain ⟨o10, ho10, hs29⟩ := bd_el hs29
            refine kc0_i (D := D) (va_runS (As := [.int o9, .int 1, .int 2]) (rest := []) ⟨hx, hb, hml, hown, hts⟩ ((k_X4_isWithin l D K o9 (1) (2) o10 ho10) H.size) (va_cwS 3 hts gX4_cheapestSentence_X4_isWithin rfl rfl rfl yd_X4_isWithin ⟨Nat.le_of_ble_eq_true rfl, Nat.le_of_ble_eq_true rfl⟩) (kPreS va_P_nil (va_D_nil (A := fun _ => True)) hK hN) rfl rfl hl.1 rfl (lv_room (Nat.le_of_ble_eq_true rfl)) dX4_cheapestSentence_67 ⟨Nat.le_of_ble_eq_true rfl, Nat.le_of_ble_eq_true rfl⟩) hP hS hA (fun hzo10 H locs hP hS => ?_)
            refine lv_if_eq (tgt := 110) hx hb dX4_cheapestSentence_70 (by decide) (fun c11 => ?_) (fun c11 => ?_)
            · rw [if_pos c11] at hs29
              refine lv_iinc (v := (x29_l7 + 1)) (lv' := [(7, .int (x29_l7 + 1)), (6, .int x29_l6), (5, .int x29_l5), (4, .int o2), (3, .int o1), (0, .ref ax), (1, .int p0), (2, .int p1)]) hx hb dX4_cheapestSentence_110 hl (k := 0) rfl (by rfl) (by decide) rfl (fun ls hl => ?_)
              refine lv_goto (tgt := 29) hx hb dX4_cheapestSentence_113 (by decide) ?_
              obtain rfl := Option.some.inj hs29
              exact ih29 _ _ _ _ _ _ hw29 hP hD hS (lv_sub hl [0, 1, 2, 3, 4, 5, 6, 7] rfl)
            · rw [if_neg c11] at hs29
              refine lv_aload_n hx hb dX4_cheapestSentence_73 rfl (lv_at hl 5 rfl) ?_
              refine va_get (D := D) (ci := 4) (v := .ref (q 0)) (C := RX4) (T := TX4) (N := 7) hx hb hts inX4_cheapestSentence_X4 hown hK hP 0 rfl rfl 0 (by decide) (hts (.fieldLink RX4 10 "WordScales" "shop" "LWordScales$Shop;") (List.mem_of_getElem? (i := 1) rfl)) (fun _ h9 => h9) rfl dX4_cheapestSentence_74 ?_
              refine lv_iload hx hb dX4_cheapestSentence_77 (lv_at hl 0 rfl) ?_
              refine lv_iload_n hx hb dX4_cheapestSentence_79 rfl (lv_at hl 6 rfl) ?_
              refine lv_iconst (v := (-1)) hx hb dX4_cheapestSentence_80 (by decide) ?_
              refine lv_ixor hx hb dX4_cheapestSentence_81 ?_
              refine lv_iand hx hb dX4_cheapestSentence_82 ?_
              obtain ⟨o12, ho12, hs29⟩ := ob_el hs29
              have hPc : va_P D vwCl (shW K q vw vk vr vp vb vi vwc vl vg vo vsc) H := hP.sub [1, 2, 3, 4, 5, 6, 7, 8, 9, 10] rfl
              have hDc : va_D A (shW K q vw vk vr vp vb vi vwc vl vg vo vsc) := hD.sub [1, 2, 3, 4, 5, 6, 7, 8, 9, 10] (by decide) rfl
              refine kcg_i (D := D) (wc := (shW K q vw vk vr vp vb vi vwc vl vg vo vsc)) (wc' := (shW K q vw vk vr vp vb vi vwc vl vg vo vsc)) (wr := [0].filterMap (fun i => (((xoW ax (q 0) zyearShop zimages zsigns zdays zmeans vsgc) ++ (shW K q vw vk vr vp vb vi vwc vl vg vo vsc)) : va_W)[i]?)) (ws2 := ((xoW ax (q 0) zyearShop zimages zsigns zdays zmeans vsgc) ++ (shW K q vw vk vr vp vb vi vwc vl vg vo vsc))) (va_runVN (As := [.int (x29_l7 &&& (p0 ^^^ (-1)))]) (rest := []) ⟨hx, hb, hml, hown, hts⟩ ((k_X3_priceOf l D K q vw vk vr vp vb vi vwc vl vg vo vsc (x29_l7 &&& (p0 ^^^ (-1))) o12 ho12) H.size) ⟨va_cnB 1 hts gX4_cheapestSentence_X3_priceOf_n142 rfl rfl rfl (hN _ (List.mem_of_getElem? (i := 54) rfl)) (hts (.initialized RX3) (List.mem_of_getElem? (i := 3) rfl)) yd_X3_priceOf ⟨Nat.le_of_ble_eq_true rfl, Nat.le_of_ble_eq_true rfl⟩, (hts (.instanceMethod yX3_priceOf) (List.mem_of_getElem? (i := 18) rfl)), (hts (.selects RX3 yX3_priceOf yX3_priceOf) (List.mem_of_getElem? (i := 19) rfl))⟩ (kPreV (ci := 3) (q0 := 1) hP rfl rfl hPc hDc hK hN) rfl rfl hl.1 rfl (lv_room (Nat.le_of_ble_eq_true rfl)) dX4_cheapestSentence_83 ⟨Nat.le_of_ble_eq_true rfl, Nat.le_of_ble_eq_true rfl⟩) hP hD hS hA [1, 2, 3, 4, 5, 6, 7, 8, 9, 10] [0] [0, 1, 2, 3, 4, 5, 6, 7, 8, 9, 10] rfl rfl (by decide) (by decide) rfl (by decide) (fun hzo12 H locs hP hD hS => ?_)
              refine lv_istore (lv' := [(8, .int o12), (7, .int x29_l7), (6, .int x29_l6), (5, .int x29_l5), (4, .int o2), (3, .int o1), (0, .ref ax), (1, .int p0), (2, .int p1)]) hx hb dX4_cheapestSentence_86 hl (by decide) rfl (fun ls hl => ?_)
              refine lv_iload hx hb dX4_cheapestSentence_88 (lv_at hl 3 rfl) ?_
              refine lv_bipush (v := (-6)) hx hb dX4_cheapestSentence_90 (by decide) ?_
              refine lv_icmp_eq (tgt := 102) hx hb dX4_cheapestSentence_92 (by decide) (fun c13 => ?_) (fun c13 => ?_)
              · rw [if_pos c13] at hs29
                refine lv_iload hx hb dX4_cheapestSentence_102 (lv_at hl 1 rfl) ?_
                refine lv_istore (lv' := [(5, .int x29_l7), (8, .int o12), (7, .int x29_l7), (6, .int x29_l6), (4, .int o2), (3, .int o1), (0, .ref ax), (1, .int p0), (2, .int p1)]) hx hb dX4_cheapestSentence_104 hl (by decide) rfl (fun ls hl => ?_)
                refine lv_iload hx hb dX4_cheapestSentence_106 (lv_at hl 1 rfl) ?_
                refine lv_istore (lv' := [(6, .int o12), (5, .int x29_l7), (8, .int o12), (7, .int x29_l7), (4, .int o2), (3, .int o1), (0, .ref ax), (1, .int p0), (2, .int p1)]) hx hb dX4_cheapestSentence_108 hl (by decide) rfl (fun ls hl => ?_)
                refine lv_iinc (v := (x29_l7 + 1)) (lv' := [(7, .int (x29_l7 + 1)), (6, .int o12), (5, .int x29_l7), (8, .int o12), (4, .int o2), (3, .int o1), (0, .ref ax), (1, .int p0), (2, .int p1)]) hx hb dX4_cheapestSentence_110 hl (k := 3) rfl (by rfl) (by decide) rfl (fun ls hl => ?_)
                refine lv_goto (tgt := 29) hx hb dX4_cheapestSentence_113 (by decide) ?_
                obtain rfl := Option.some.inj hs29
                exact ih29 _ _ _ _ _ _ hw29 hP hD hS (lv_sub hl [0, 1, 2, 4, 5, 6, 7, 8] rfl)
              · rw [if_neg c13] at hs29
                refine lv_iload hx hb dX4_cheapestSentence_95 (lv_at hl 0 rfl) ?_
                refine lv_iload hx hb dX4_cheapestSentence_97 (lv_at hl 2 rfl) ?_
                refine lv_icmp_ge (tgt := 110) hx hb dX4_cheapestSentence_99 (by decide) (fun c14 => ?_) (fun c14 => ?_)
                · rw [if_pos c14] at hs29
                  refine lv_iinc (v := (x29_l7 + 1)) (lv' := [(7, .int (x29_l7 + 1)), (8, .int o12), (6, .int x29_l6), (5, .int x29_l5), (4, .int o2), (3, .int o1), (0, .ref ax), (1, .int p0), (2, .int p1)]) hx hb dX4_cheapestSentence_110 hl (k := 1) rfl (by rfl) (by decide) rfl (fun ls hl => ?_)
                  refine lv_goto (tgt := 29) hx hb dX4_cheapestSentence_113 (by decide) ?_
                  obtain rfl := Option.some.inj hs29
                  exact ih29 _ _ _ _ _ _ hw29 hP hD hS (lv_sub hl [0, 2, 3, 4, 5, 6, 7, 8] rfl)
                · rw [if_neg c14] at hs29
                  refine lv_iload hx hb dX4_cheapestSentence_102 (lv_at hl 1 rfl) ?_
                  refine lv_istore (lv' := [(5, .int x29_l7), (8, .int o12), (7, .int x29_l7), (6, .int x29_l6), (4, .int o2), (3, .int o1), (0, .ref ax), (1, .int p0), (2, .int p1)]) hx hb dX4_cheapestSentence_104 hl (by decide) rfl (fun ls hl => ?_)
                  refine lv_iload hx hb dX4_cheapestSentence_106 (lv_at hl 1 rfl) ?_
                  refine lv_istore (lv' := [(6, .int o12), (5, .int x29_l7), (8, .int o12), (7, .int x29_l7), (4, .int o2), (3, .int o1), (0, .ref ax), (1, .int p0), (2, .int p1)]) hx hb dX4_cheapestSentence_108 hl (by decide) rfl (fun ls hl => ?_)
                  refine lv_iinc (v := (x29_l7 + 1)) (lv' := [(7, .int (x29_l7 + 1)), (6, .int o12), (5, .int x29_l7), (8, .int o12), (4, .int o2), (3, .int o1), (0, .ref ax), (1, .int p0), (2, .int p1)]) hx hb dX4_cheapestSentence_110 hl (k := 3) rfl (by rfl) (by decide) rfl (fun ls hl => ?_)
                  refine lv_goto (tgt := 29) hx hb dX4_cheapestSentence_113 (by decide) ?_
                  obtain rfl := Option.some.inj hs29
                  exact ih29 _ _ _ _ _ _ hw29 hP hD hS (lv_sub hl [0, 1, 2, 4, 5, 6, 7, 8] rfl)
  exact lp29 5000 _ _ _ _ _ _ hr3 hP hD hS (lv_sub hl [0, 1, 2, 3, 4, 5, 6, 7] rfl)
def f_X4_cheap (vw : Nat → Int32) (vk : Nat → Int32) (vb : Nat → Int32) (p0 : Int32) (p1 : Int32) (p2 : Int32) : Option (Int32) := bd (f_X4_isSpeaker p0) (fun o1 => if o1 = 0 then (some (-1)) else (bd (f_X4_isWithin p1 (1) (8)) (fun o3 => if o3 = 0 then (some (-2)) else (bd (f_X4_isWithin p2 (0) (1)) (fun o5 => if o5 = 0 then (some (-2)) else (chk p0 4 (ob (f_X4_cheapestSentence vw vk (vb (p0).toNatClampNeg) p1) (fun o8 => if p2 = 1 then (some o8) else (if o8 = (-6) then (some o8) else (ob (f_X3_priceOf vw (o8 &&& ((vb (p0).toNatClampNeg) ^^^ (-1)))) (fun o11 => some o11)))))))))))
theorem inX4_cheap_X3 : ∀ w ∈ wsX30, w ∈ wsX4_cheap := fun w h => List.mem_cons_of_mem _ (List.mem_append_right _ h)
theorem inX4_cheap_X4 : ∀ w ∈ wsX40, w ∈ wsX4_cheap := fun w h => List.mem_cons_of_mem _ (List.mem_append_left _ (List.mem_append_right _ h))
theorem yd_X4_cheap : yX4_cheap.cls ≠ "java/lang/invoke/MethodHandle" ∧ yX4_cheap.cls ≠ "java/lang/invoke/VarHandle" ∧ (parseMethodDescriptor yX4_cheap.desc).map (fun d => d.parameters.length) = some 3 := by decide +kernel
abbrev rmX4_cheap : Room := { frames := 3, cells := 0, slots := 0, locals := 72 }
set_option maxHeartbeats 4000000 in
set_option maxRecDepth 100000 in
theorem k_X4_cheap (l : Launch) (D : va_G) (K : Nat → ClassId) (ax : Nat) (q : Nat → Nat) (zyearShop : Nat) (zimages : Nat) (zsigns : Nat) (zdays : Nat) (zmeans : Nat) (vsgc : Int32) (vw : Nat → Int32) (vk : Nat → Int32) (vr : Nat → Int32) (vp : Nat → Int32) (vb : Nat → Int32) (vi : Nat → Int32) (vwc : Int32) (vl : Nat → Int32) (vg : Nat → Int32) (vo : Nat → Int32) (vsc : Int32) (p0 : Int32) (p1 : Int32) (p2 : Int32) (out : Int32) (hf : f_X4_cheap vw vk vb p0 p1 p2 = some out) : kI l D K .int yX4_cheap wsX4_cheap rmX4_cheap [.ref ax, .int p0, .int p1, .int p2] ((xoW ax (q 0) zyearShop zimages zsigns zdays zmeans vsgc) ++ (shW K q vw vk vr vp vb vi vwc vl vg vo vsc)) out ((xoW ax (q 0) zyearShop zimages zsigns zdays zmeans vsgc) ++ (shW K q vw vk vr vp vb vi vwc vl vg vo vsc)) := by
  refine kI.of (cc := cX4_cheap) (maxL := 6) (by decide) rfl (Nat.le_of_ble_eq_true rfl) ?_
  intro p e s m args below meth c A H0 Q ls hx hb hml hown hts hK hN hA hP hD hS hl hret
  have hown : s.vm.findClass RX4 = some m.cls := hown
  have hl : lv_has ls 6 [(0, .ref ax), (1, .int p0), (2, .int p1), (3, .int p2)] := hl
  generalize hH : H0 = H at hP ⊢
  have hS : va_S A H0 H [] := by rw [← hH]; exact hS
  clear hH
  unfold f_X4_cheap at hf
  refine lv_iload_n hx hb dX4_cheap_0 rfl (lv_at hl 1 rfl) ?_
  obtain ⟨o1, ho1, hf⟩ := bd_el hf
  refine kc0_i (D := D) (va_runS (As := [.int p0]) (rest := []) ⟨hx, hb, hml, hown, hts⟩ ((k_X4_isSpeaker l D K p0 o1 ho1) H.size) (va_cwS 1 hts gX4_cheap_X4_isSpeaker rfl rfl rfl yd_X4_isSpeaker ⟨Nat.le_of_ble_eq_true rfl, Nat.le_of_ble_eq_true rfl⟩) (kPreS va_P_nil (va_D_nil (A := fun _ => True)) hK hN) rfl rfl hl.1 rfl (lv_room (Nat.le_of_ble_eq_true rfl)) dX4_cheap_1 ⟨Nat.le_of_ble_eq_true rfl, Nat.le_of_ble_eq_true rfl⟩) hP hS hA (fun hzo1 H locs hP hS => ?_)
  refine lv_if_ne (tgt := 9) hx hb dX4_cheap_4 (by decide) (fun c2 => ?_) (fun c2 => ?_)
  · rw [if_neg c2] at hf
    refine lv_iload_n hx hb dX4_cheap_9 rfl (lv_at hl 2 rfl) ?_
    refine lv_iconst (v := 1) hx hb dX4_cheap_10 (by decide) ?_
    refine lv_bipush (v := 8) hx hb dX4_cheap_11 (by decide) ?_
    obtain ⟨o3, ho3, hf⟩ := bd_el hf
    refine kc0_i (D := D) (va_runS (As := [.int p1, .int 1, .int 8]) (rest := []) ⟨hx, hb, hml, hown, hts⟩ ((k_X4_isWithin l D K p1 (1) (8) o3 ho3) H.size) (va_cwS 3 hts gX4_cheap_X4_isWithin rfl rfl rfl yd_X4_isWithin ⟨Nat.le_of_ble_eq_true rfl, Nat.le_of_ble_eq_true rfl⟩) (kPreS va_P_nil (va_D_nil (A := fun _ => True)) hK hN) rfl rfl hl.1 rfl (lv_room (Nat.le_of_ble_eq_true rfl)) dX4_cheap_13 ⟨Nat.le_of_ble_eq_true rfl, Nat.le_of_ble_eq_true rfl⟩) hP hS hA (fun hzo3 H locs hP hS => ?_)
    refine lv_if_eq (tgt := 28) hx hb dX4_cheap_16 (by decide) (fun c4 => ?_) (fun c4 => ?_)
    · rw [if_pos c4] at hf
      refine lv_bipush (v := (-2)) hx hb dX4_cheap_28 (by decide) ?_
      obtain rfl := Option.some.inj hf
      exact hret rfl rfl rfl hP hD hS dX4_cheap_30
    · rw [if_neg c4] at hf
      refine lv_iload_n hx hb dX4_cheap_19 rfl (lv_at hl 3 rfl) ?_
      refine lv_iconst (v := 0) hx hb dX4_cheap_20 (by decide) ?_
      refine lv_iconst (v := 1) hx hb dX4_cheap_21 (by decide) ?_
      obtain ⟨o5, ho5, hf⟩ := bd_el hf
      refine kc0_i (D := D) (va_runS (As := [.int p2, .int 0, .int 1]) (rest := []) ⟨hx, hb, hml, hown, hts⟩ ((k_X4_isWithin l D K p2 (0) (1) o5 ho5) H.size) (va_cwS 3 hts gX4_cheap_X4_isWithin rfl rfl rfl yd_X4_isWithin ⟨Nat.le_of_ble_eq_true rfl, Nat.le_of_ble_eq_true rfl⟩) (kPreS va_P_nil (va_D_nil (A := fun _ => True)) hK hN) rfl rfl hl.1 rfl (lv_room (Nat.le_of_ble_eq_true rfl)) dX4_cheap_22 ⟨Nat.le_of_ble_eq_true rfl, Nat.le_of_ble_eq_true rfl⟩) hP hS hA (fun hzo5 H locs hP hS => ?_)
      refine lv_if_ne (tgt := 31) hx hb dX4_cheap_25 (by decide) (fun c6 => ?_) (fun c6 => ?_)
      · rw [if_neg c6] at hf
        refine lv_aload_n hx hb dX4_cheap_31 rfl (lv_at hl 0 rfl) ?_
        refine va_get (D := D) (ci := 4) (v := .ref (q 0)) (C := RX4) (T := TX4) (N := 7) hx hb hts inX4_cheap_X4 hown hK hP 0 rfl rfl 0 (by decide) (hts (.fieldLink RX4 10 "WordScales" "shop" "LWordScales$Shop;") (List.mem_of_getElem? (i := 1) rfl)) (fun _ h9 => h9) rfl dX4_cheap_32 ?_
        refine va_getN (D := D) (host := "WordScales") (ci := 3) (v := .ref (q 5)) (C := RX3) (T := TX3) (N := 11) hx hb hts inX4_cheap_X3 hown hK hP 1 rfl rfl 4 (by decide) (va_Nw.use rfl (hN _ (List.mem_of_getElem? (i := 6) rfl))) (fun _ h9 => h9) rfl dX4_cheap_35 ?_
        refine lv_iload_n hx hb dX4_cheap_38 rfl (lv_at hl 1 rfl) ?_
        obtain ⟨v7, hf⟩ := chk_el hf
        refine va_iald (D := D) (f := vb) hx hb hK hP 6 0 rfl rfl v7 dX4_cheap_39 ?_
        refine lv_istore (lv' := [(4, .int (vb (p0).toNatClampNeg)), (0, .ref ax), (1, .int p0), (2, .int p1), (3, .int p2)]) hx hb dX4_cheap_40 hl (by decide) rfl (fun ls hl => ?_)
        refine lv_aload_n hx hb dX4_cheap_42 rfl (lv_at hl 1 rfl) ?_
        refine lv_iload hx hb dX4_cheap_43 (lv_at hl 0 rfl) ?_
        refine lv_iload_n hx hb dX4_cheap_45 rfl (lv_at hl 3 rfl) ?_
        obtain ⟨o8, ho8, hf⟩ := ob_el hf
        refine kcw_i (D := D) (va_runV (As := [.int (vb (p0).toNatClampNeg), .int p1]) (rest := []) ⟨hx, hb, hml, hown, hts⟩ ((k_X4_cheapestSentence l D K ax q zyearShop zimages zsigns zdays zmeans vsgc vw vk vr vp vb vi vwc vl vg vo vsc (vb (p0).toNatClampNeg) p1 o8 ho8) H.size) (cwV 2 hts gX4_cheap_X4_cheapestSentence rfl rfl rfl ⟨rfl, yd_X4_cheapestSentence⟩ ⟨Nat.le_of_ble_eq_true rfl, Nat.le_of_ble_eq_true rfl⟩) (kPreV (ci := 4) (q0 := 0) hP rfl rfl hP hD hK hN) rfl rfl hl.1 rfl (lv_room (Nat.le_of_ble_eq_true rfl)) dX4_cheap_46 ⟨Nat.le_of_ble_eq_true rfl, Nat.le_of_ble_eq_true rfl⟩) hD hS hA (fun hzo8 H locs hP hD hS => ?_)
        have hP : va_P D vwCl ((xoW ax (q 0) zyearShop zimages zsigns zdays zmeans vsgc) ++ (shW K q vw vk vr vp vb vi vwc vl vg vo vsc)) H := hP
        have hD : va_D A ((xoW ax (q 0) zyearShop zimages zsigns zdays zmeans vsgc) ++ (shW K q vw vk vr vp vb vi vwc vl vg vo vsc)) := hD
        refine lv_istore (lv' := [(5, .int o8), (4, .int (vb (p0).toNatClampNeg)), (0, .ref ax), (1, .int p0), (2, .int p1), (3, .int p2)]) hx hb dX4_cheap_49 hl (by decide) rfl (fun ls hl => ?_)
        refine lv_iload_n hx hb dX4_cheap_51 rfl (lv_at hl 5 rfl) ?_
        refine lv_iconst (v := 1) hx hb dX4_cheap_52 (by decide) ?_
        refine lv_icmp_eq (tgt := 63) hx hb dX4_cheap_53 (by decide) (fun c9 => ?_) (fun c9 => ?_)
        · rw [if_pos c9] at hf
          refine lv_iload hx hb dX4_cheap_63 (lv_at hl 0 rfl) ?_
          refine lv_goto (tgt := 82) hx hb dX4_cheap_65 (by decide) ?_
          obtain rfl := Option.some.inj hf
          exact hret rfl rfl rfl hP hD hS dX4_cheap_82
        · rw [if_neg c9] at hf
          refine lv_iload hx hb dX4_cheap_56 (lv_at hl 0 rfl) ?_
          refine lv_bipush (v := (-6)) hx hb dX4_cheap_58 (by decide) ?_
          refine lv_icmp_ne (tgt := 68) hx hb dX4_cheap_60 (by decide) (fun c10 => ?_) (fun c10 => ?_)
          · rw [if_neg c10] at hf
            refine lv_aload_n hx hb dX4_cheap_68 rfl (lv_at hl 2 rfl) ?_
            refine va_get (D := D) (ci := 4) (v := .ref (q 0)) (C := RX4) (T := TX4) (N := 7) hx hb hts inX4_cheap_X4 hown hK hP 0 rfl rfl 0 (by decide) (hts (.fieldLink RX4 10 "WordScales" "shop" "LWordScales$Shop;") (List.mem_of_getElem? (i := 1) rfl)) (fun _ h9 => h9) rfl dX4_cheap_69 ?_
            refine lv_iload hx hb dX4_cheap_72 (lv_at hl 0 rfl) ?_
            refine lv_iload hx hb dX4_cheap_74 (lv_at hl 1 rfl) ?_
            refine lv_iconst (v := (-1)) hx hb dX4_cheap_76 (by decide) ?_
            refine lv_ixor hx hb dX4_cheap_77 ?_
            refine lv_iand hx hb dX4_cheap_78 ?_
            obtain ⟨o11, ho11, hf⟩ := ob_el hf
            have hPc : va_P D vwCl (shW K q vw vk vr vp vb vi vwc vl vg vo vsc) H := hP.sub [1, 2, 3, 4, 5, 6, 7, 8, 9, 10] rfl
            have hDc : va_D A (shW K q vw vk vr vp vb vi vwc vl vg vo vsc) := hD.sub [1, 2, 3, 4, 5, 6, 7, 8, 9, 10] (by decide) rfl
            refine kcg_i (D := D) (wc := (shW K q vw vk vr vp vb vi vwc vl vg vo vsc)) (wc' := (shW K q vw vk vr vp vb vi vwc vl vg vo vsc)) (wr := [0].filterMap (fun i => (((xoW ax (q 0) zyearShop zimages zsigns zdays zmeans vsgc) ++ (shW K q vw vk vr vp vb vi vwc vl vg vo vsc)) : va_W)[i]?)) (ws2 := ((xoW ax (q 0) zyearShop zimages zsigns zdays zmeans vsgc) ++ (shW K q vw vk vr vp vb vi vwc vl vg vo vsc))) (va_runVN (As := [.int (o8 &&& ((vb (p0).toNatClampNeg) ^^^ (-1)))]) (rest := []) ⟨hx, hb, hml, hown, hts⟩ ((k_X3_priceOf l D K q vw vk vr vp vb vi vwc vl vg vo vsc (o8 &&& ((vb (p0).toNatClampNeg) ^^^ (-1))) o11 ho11) H.size) ⟨va_cnB 1 hts gX4_cheap_X3_priceOf_n142 rfl rfl rfl (hN _ (List.mem_of_getElem? (i := 54) rfl)) (hts (.initialized RX3) (List.mem_of_getElem? (i := 14) rfl)) yd_X3_priceOf ⟨Nat.le_of_ble_eq_true rfl, Nat.le_of_ble_eq_true rfl⟩, (hts (.instanceMethod yX3_priceOf) (List.mem_of_getElem? (i := 25) rfl)), (hts (.selects RX3 yX3_priceOf yX3_priceOf) (List.mem_of_getElem? (i := 26) rfl))⟩ (kPreV (ci := 3) (q0 := 1) hP rfl rfl hPc hDc hK hN) rfl rfl hl.1 rfl (lv_room (Nat.le_of_ble_eq_true rfl)) dX4_cheap_79 ⟨Nat.le_of_ble_eq_true rfl, Nat.le_of_ble_eq_true rfl⟩) hP hD hS hA [1, 2, 3, 4, 5, 6, 7, 8, 9, 10] [0] [0, 1, 2, 3, 4, 5, 6, 7, 8, 9, 10] rfl rfl (by decide) (by decide) rfl (by decide) (fun hzo11 H locs hP hD hS => ?_)
            obtain rfl := Option.some.inj hf
            exact hret rfl rfl rfl hP hD hS dX4_cheap_82
          · rw [if_pos c10] at hf
            refine lv_iload hx hb dX4_cheap_63 (lv_at hl 0 rfl) ?_
            refine lv_goto (tgt := 82) hx hb dX4_cheap_65 (by decide) ?_
            obtain rfl := Option.some.inj hf
            exact hret rfl rfl rfl hP hD hS dX4_cheap_82
      · rw [if_pos c6] at hf
        refine lv_bipush (v := (-2)) hx hb dX4_cheap_28 (by decide) ?_
        obtain rfl := Option.some.inj hf
        exact hret rfl rfl rfl hP hD hS dX4_cheap_30
  · rw [if_pos c2] at hf
    refine lv_iconst (v := (-1)) hx hb dX4_cheap_7 (by decide) ?_
    obtain rfl := Option.some.inj hf
    exact hret rfl rfl rfl hP hD hS dX4_cheap_8
def s_X4_fewestSpeakers_8 (vk : Nat → Int32) (vb : Nat → Int32) (p0 : Int32) (x : Int32 × Int32 × Int32) : Option ((Int32 × Int32 × Int32) ⊕ (Int32 × Int32 × Int32)) := if 15 < x.2.2 then (some (.inr (x.1, x.2.1, x.2.2))) else (bd (f_J6_bitCount_0f7a4 x.2.2) (fun o3 => if x.2.1 ≤ o3 then (some (.inl (x.1, x.2.1, (x.2.2 + 1)))) else (ob (f_X3_heldBy vb x.2.2) (fun o5 => ob (f_X3_canSayOnce vk o5 p0) (fun o6 => if o6 = 0 then (some (.inl (x.1, x.2.1, (x.2.2 + 1)))) else (some (.inl (x.2.2, o3, (x.2.2 + 1)))))))))
def f_X4_fewestSpeakers (vk : Nat → Int32) (vb : Nat → Int32) (p0 : Int32) : Option (Int32) := ob (wh (s_X4_fewestSpeakers_8 vk vb p0) 5000 ((-6), 5, 1)) (fun r1 => some r1.1)
theorem inX4_fewestSpeakers_X4 : ∀ w ∈ wsX40, w ∈ wsX4_fewestSpeakers := fun w h => List.mem_cons_of_mem _ (List.mem_append_left _ (List.mem_append_right _ h))
theorem yd_X4_fewestSpeakers : yX4_fewestSpeakers.cls ≠ "java/lang/invoke/MethodHandle" ∧ yX4_fewestSpeakers.cls ≠ "java/lang/invoke/VarHandle" ∧ (parseMethodDescriptor yX4_fewestSpeakers.desc).map (fun d => d.parameters.length) = some 1 := by decide +kernel
abbrev rmX4_fewestSpeakers : Room := { frames := 3, cells := 0, slots := 0, locals := 69 }
set_option maxHeartbeats 4000000 in
set_option maxRecDepth 100000 in
theorem k_X4_fewestSpeakers (l : Launch) (D : va_G) (K : Nat → ClassId) (ax : Nat) (q : Nat → Nat) (zyearShop : Nat) (zimages : Nat) (zsigns : Nat) (zdays : Nat) (zmeans : Nat) (vsgc : Int32) (vw : Nat → Int32) (vk : Nat → Int32) (vr : Nat → Int32) (vp : Nat → Int32) (vb : Nat → Int32) (vi : Nat → Int32) (vwc : Int32) (vl : Nat → Int32) (vg : Nat → Int32) (vo : Nat → Int32) (vsc : Int32) (p0 : Int32) (out : Int32) (hf : f_X4_fewestSpeakers vk vb p0 = some out) : kI l D K .int yX4_fewestSpeakers wsX4_fewestSpeakers rmX4_fewestSpeakers [.ref ax, .int p0] ((xoW ax (q 0) zyearShop zimages zsigns zdays zmeans vsgc) ++ (shW K q vw vk vr vp vb vi vwc vl vg vo vsc)) out ((xoW ax (q 0) zyearShop zimages zsigns zdays zmeans vsgc) ++ (shW K q vw vk vr vp vb vi vwc vl vg vo vsc)) := by
  refine kI.of (cc := cX4_fewestSpeakers) (maxL := 6) (by decide) rfl (Nat.le_of_ble_eq_true rfl) ?_
  intro p e s m args below meth c A H0 Q ls hx hb hml hown hts hK hN hA hP hD hS hl hret
  have hown : s.vm.findClass RX4 = some m.cls := hown
  have hl : lv_has ls 6 [(0, .ref ax), (1, .int p0)] := hl
  generalize hH : H0 = H at hP ⊢
  have hS : va_S A H0 H [] := by rw [← hH]; exact hS
  clear hH
  unfold f_X4_fewestSpeakers at hf
  refine lv_bipush (v := (-6)) hx hb dX4_fewestSpeakers_0 (by decide) ?_
  refine lv_istore_n (lv' := [(2, .int (-6)), (0, .ref ax), (1, .int p0)]) hx hb dX4_fewestSpeakers_2 rfl hl (by decide) rfl (fun ls hl => ?_)
  refine lv_iconst (v := 5) hx hb dX4_fewestSpeakers_3 (by decide) ?_
  refine lv_istore_n (lv' := [(3, .int 5), (2, .int (-6)), (0, .ref ax), (1, .int p0)]) hx hb dX4_fewestSpeakers_4 rfl hl (by decide) rfl (fun ls hl => ?_)
  refine lv_iconst (v := 1) hx hb dX4_fewestSpeakers_5 (by decide) ?_
  refine lv_istore (lv' := [(4, .int 1), (3, .int 5), (2, .int (-6)), (0, .ref ax), (1, .int p0)]) hx hb dX4_fewestSpeakers_6 hl (by decide) rfl (fun ls hl => ?_)
  obtain ⟨r1, hr1, hf⟩ := ob_el hf
  have post8 : ∀ (e8_l2 : Int32) (e8_l3 : Int32) (e8_l4 : Int32) (H : Heap) (locs : List Loc) (ls : Array Slot), (some e8_l2) = some out → va_P D vwCl ((xoW ax (q 0) zyearShop zimages zsigns zdays zmeans vsgc) ++ (shW K q vw vk vr vp vb vi vwc vl vg vo vsc)) H → va_D A ((xoW ax (q 0) zyearShop zimages zsigns zdays zmeans vsgc) ++ (shW K q vw vk vr vp vb vi vwc vl vg vo vsc)) → va_S A H0 H locs → lv_has ls 6 [(4, .int e8_l4), (3, .int e8_l3), (2, .int e8_l2), (0, .ref ax), (1, .int p0)] → W p l e rmX4_fewestSpeakers s m args below meth c H locs 0 0 Q (F0 m 60 ls []) := by
    intro e8_l2 e8_l3 e8_l4 H locs ls hf hP hD hS hl
    refine lv_iload_n hx hb dX4_fewestSpeakers_60 rfl (lv_at hl 2 rfl) ?_
    obtain rfl := Option.some.inj hf
    exact hret rfl rfl rfl hP hD hS dX4_fewestSpeakers_61
  have lp8 : ∀ (fu : Nat) (x8_l2 : Int32) (x8_l3 : Int32) (x8_l4 : Int32) (H : Heap) (locs : List Loc) (ls : Array Slot), wh (s_X4_fewestSpeakers_8 vk vb p0) fu (x8_l2, x8_l3, x8_l4) = some r1 → va_P D vwCl ((xoW ax (q 0) zyearShop zimages zsigns zdays zmeans vsgc) ++ (shW K q vw vk vr vp vb vi vwc vl vg vo vsc)) H → va_D A ((xoW ax (q 0) zyearShop zimages zsigns zdays zmeans vsgc) ++ (shW K q vw vk vr vp vb vi vwc vl vg vo vsc)) → va_S A H0 H locs → lv_has ls 6 [(4, .int x8_l4), (3, .int x8_l3), (2, .int x8_l2), (0, .ref ax), (1, .int p0)] → W p l e rmX4_fewestSpeakers s m args below meth c H locs 0 0 Q (F0 m 8 ls []) := by
    intro fu
    induction fu with
    | zero => intro x8_l2 x8_l3 x8_l4 H locs ls hw8; cases hw8
    | succ fu ih8 =>
      intro x8_l2 x8_l3 x8_l4 H locs ls hw8 hP hD hS hl
      obtain ⟨o8_, hs8, hw8⟩ := wh_el hw8
      unfold s_X4_fewestSpeakers_8 at hs8
      dsimp only at hs8
      refine lv_iload hx hb dX4_fewestSpeakers_8 (lv_at hl 0 rfl) ?_
      refine lv_bipush (v := 15) hx hb dX4_fewestSpeakers_10 (by decide) ?_
      refine lv_icmp_gt (tgt := 60) hx hb dX4_fewestSpeakers_12 (by decide) (fun c2 => ?_) (fun c2 => ?_)
      · rw [if_pos c2] at hs8
        obtain rfl := Option.some.inj hs8
        have e9 := Option.some.inj hw8
        rw [← e9] at hf
        exact post8 _ _ _ _ _ _ hf hP hD hS (lv_sub hl [0, 1, 2, 3, 4] rfl)
      · rw [if_neg c2] at hs8
        refine lv_iload hx hb dX4_fewestSpeakers_15 (lv_at hl 0 rfl) ?_
        obtain ⟨o3, ho3, hs8⟩ := bd_el hs8
        refine kc0_i (D := D) (va_runS (As := [.int x8_l4]) (rest := []) ⟨hx, hb, hml, hown, hts⟩ ((k_J6_bitCount_0f7a4 l D K x8_l4 o3 ho3) H.size) (va_cwS 1 hts gX4_fewestSpeakers_J6_bitCount_0f7a4 rfl rfl rfl yd_J6_bitCount_0f7a4 ⟨Nat.le_of_ble_eq_true rfl, Nat.le_of_ble_eq_true rfl⟩) (kPreS va_P_nil (va_D_nil (A := fun _ => True)) hK hN) rfl rfl hl.1 rfl (lv_room (Nat.le_of_ble_eq_true rfl)) dX4_fewestSpeakers_17 ⟨Nat.le_of_ble_eq_true rfl, Nat.le_of_ble_eq_true rfl⟩) hP hS hA (fun hzo3 H locs hP hS => ?_)
        refine lv_istore (lv' := [(5, .int o3), (4, .int x8_l4), (3, .int x8_l3), (2, .int x8_l2), (0, .ref ax), (1, .int p0)]) hx hb dX4_fewestSpeakers_20 hl (by decide) rfl (fun ls hl => ?_)
        refine lv_iload hx hb dX4_fewestSpeakers_22 (lv_at hl 0 rfl) ?_
        refine lv_iload_n hx hb dX4_fewestSpeakers_24 rfl (lv_at hl 2 rfl) ?_
        refine lv_icmp_ge (tgt := 54) hx hb dX4_fewestSpeakers_25 (by decide) (fun c4 => ?_) (fun c4 => ?_)
        · rw [if_pos c4] at hs8
          refine lv_iinc (v := (x8_l4 + 1)) (lv' := [(4, .int (x8_l4 + 1)), (5, .int o3), (3, .int x8_l3), (2, .int x8_l2), (0, .ref ax), (1, .int p0)]) hx hb dX4_fewestSpeakers_54 hl (k := 1) rfl (by rfl) (by decide) rfl (fun ls hl => ?_)
          refine lv_goto (tgt := 8) hx hb dX4_fewestSpeakers_57 (by decide) ?_
          obtain rfl := Option.some.inj hs8
          exact ih8 _ _ _ _ _ _ hw8 hP hD hS (lv_sub hl [0, 2, 3, 4, 5] rfl)
        · rw [if_neg c4] at hs8
          refine lv_aload_n hx hb dX4_fewestSpeakers_28 rfl (lv_at hl 4 rfl) ?_
          refine va_get (D := D) (ci := 4) (v := .ref (q 0)) (C := RX4) (T := TX4) (N := 7) hx hb hts inX4_fewestSpeakers_X4 hown hK hP 0 rfl rfl 0 (by decide) (hts (.fieldLink RX4 10 "WordScales" "shop" "LWordScales$Shop;") (List.mem_of_getElem? (i := 1) rfl)) (fun _ h9 => h9) rfl dX4_fewestSpeakers_29 ?_
          refine lv_aload_n hx hb dX4_fewestSpeakers_32 rfl (lv_at hl 4 rfl) ?_
          refine va_get (D := D) (ci := 4) (v := .ref (q 0)) (C := RX4) (T := TX4) (N := 7) hx hb hts inX4_fewestSpeakers_X4 hown hK hP 0 rfl rfl 0 (by decide) (hts (.fieldLink RX4 10 "WordScales" "shop" "LWordScales$Shop;") (List.mem_of_getElem? (i := 1) rfl)) (fun _ h9 => h9) rfl dX4_fewestSpeakers_33 ?_
          refine lv_iload hx hb dX4_fewestSpeakers_36 (lv_at hl 1 rfl) ?_
          obtain ⟨o5, ho5, hs8⟩ := ob_el hs8
          have hPc : va_P D vwCl (shW K q vw vk vr vp vb vi vwc vl vg vo vsc) H := hP.sub [1, 2, 3, 4, 5, 6, 7, 8, 9, 10] rfl
          have hDc : va_D A (shW K q vw vk vr vp vb vi vwc vl vg vo vsc) := hD.sub [1, 2, 3, 4, 5, 6, 7, 8, 9, 10] (by decide) rfl
          refine kcg_i (D := D) (wc := (shW K q vw vk vr vp vb vi vwc vl vg vo vsc)) (wc' := (shW K q vw vk vr vp vb vi vwc vl vg vo vsc)) (wr := [0].filterMap (fun i => (((xoW ax (q 0) zyearShop zimages zsigns zdays zmeans vsgc) ++ (shW K q vw vk vr vp vb vi vwc vl vg vo vsc)) : va_W)[i]?)) (ws2 := ((xoW ax (q 0) zyearShop zimages zsigns zdays zmeans vsgc) ++ (shW K q vw vk vr vp vb vi vwc vl vg vo vsc))) (va_runVN (As := [.int x8_l4]) (rest := [.ref (q 0)]) ⟨hx, hb, hml, hown, hts⟩ ((k_X3_heldBy l D K q vw vk vr vp vb vi vwc vl vg vo vsc x8_l4 o5 ho5) H.size) ⟨va_cnB 1 hts gX4_fewestSpeakers_X3_heldBy_n213 rfl rfl rfl (hN _ (List.mem_of_getElem? (i := 55) rfl)) (hts (.initialized RX3) (List.mem_of_getElem? (i := 10) rfl)) yd_X3_heldBy ⟨Nat.le_of_ble_eq_true rfl, Nat.le_of_ble_eq_true rfl⟩, (hts (.instanceMethod yX3_heldBy) (List.mem_of_getElem? (i := 9) rfl)), (hts (.selects RX3 yX3_heldBy yX3_heldBy) (List.mem_of_getElem? (i := 11) rfl))⟩ (kPreV (ci := 3) (q0 := 1) hP rfl rfl hPc hDc hK hN) rfl rfl hl.1 rfl (lv_room (Nat.le_of_ble_eq_true rfl)) dX4_fewestSpeakers_38 ⟨Nat.le_of_ble_eq_true rfl, Nat.le_of_ble_eq_true rfl⟩) hP hD hS hA [1, 2, 3, 4, 5, 6, 7, 8, 9, 10] [0] [0, 1, 2, 3, 4, 5, 6, 7, 8, 9, 10] rfl rfl (by decide) (by decide) rfl (by decide) (fun hzo5 H locs hP hD hS => ?_)
          refine lv_iload_n hx hb dX4_fewestSpeakers_41 rfl (lv_at hl 5 rfl) ?_
          obtain ⟨o6, ho6, hs8⟩ := ob_el hs8
          have hPc : va_P D vwCl (shW K q vw vk vr vp vb vi vwc vl vg vo vsc) H := hP.sub [1, 2, 3, 4, 5, 6, 7, 8, 9, 10] rfl
          have hDc : va_D A (shW K q vw vk vr vp vb vi vwc vl vg vo vsc) := hD.sub [1, 2, 3, 4, 5, 6, 7, 8, 9, 10] (by decide) rfl
          refine kcg_i (D := D) (wc := (shW K q vw vk vr vp vb vi vwc vl vg vo vsc)) (wc' := (shW K q vw vk vr vp vb vi vwc vl vg vo vsc)) (wr := [0].filterMap (fun i => (((xoW ax (q 0) zyearShop zimages zsigns zdays zmeans vsgc) ++ (shW K q vw vk vr vp vb vi vwc vl vg vo vsc)) : va_W)[i]?)) (ws2 := ((xoW ax (q 0) zyearShop zimages zsigns zdays zmeans vsgc) ++ (shW K q vw vk vr vp vb vi vwc vl vg vo vsc))) (va_runVN (As := [.int o5, .int p0]) (rest := []) ⟨hx, hb, hml, hown, hts⟩ ((k_X3_canSayOnce l D K q vw vk vr vp vb vi vwc vl vg vo vsc o5 p0 o6 ho6) H.size) ⟨va_cnB 2 hts gX4_fewestSpeakers_X3_canSayOnce_n216 rfl rfl rfl (hN _ (List.mem_of_getElem? (i := 56) rfl)) (hts (.initialized RX3) (List.mem_of_getElem? (i := 10) rfl)) yd_X3_canSayOnce ⟨Nat.le_of_ble_eq_true rfl, Nat.le_of_ble_eq_true rfl⟩, (hts (.instanceMethod yX3_canSayOnce) (List.mem_of_getElem? (i := 17) rfl)), (hts (.selects RX3 yX3_canSayOnce yX3_canSayOnce) (List.mem_of_getElem? (i := 18) rfl))⟩ (kPreV (ci := 3) (q0 := 1) hP rfl rfl hPc hDc hK hN) rfl rfl hl.1 rfl (lv_room (Nat.le_of_ble_eq_true rfl)) dX4_fewestSpeakers_42 ⟨Nat.le_of_ble_eq_true rfl, Nat.le_of_ble_eq_true rfl⟩) hP hD hS hA [1, 2, 3, 4, 5, 6, 7, 8, 9, 10] [0] [0, 1, 2, 3, 4, 5, 6, 7, 8, 9, 10] rfl rfl (by decide) (by decide) rfl (by decide) (fun hzo6 H locs hP hD hS => ?_)
          refine lv_if_eq (tgt := 54) hx hb dX4_fewestSpeakers_45 (by decide) (fun c7 => ?_) (fun c7 => ?_)
          · rw [if_pos c7] at hs8
            refine lv_iinc (v := (x8_l4 + 1)) (lv' := [(4, .int (x8_l4 + 1)), (5, .int o3), (3, .int x8_l3), (2, .int x8_l2), (0, .ref ax), (1, .int p0)]) hx hb dX4_fewestSpeakers_54 hl (k := 1) rfl (by rfl) (by decide) rfl (fun ls hl => ?_)
            refine lv_goto (tgt := 8) hx hb dX4_fewestSpeakers_57 (by decide) ?_
            obtain rfl := Option.some.inj hs8
            exact ih8 _ _ _ _ _ _ hw8 hP hD hS (lv_sub hl [0, 2, 3, 4, 5] rfl)
          · rw [if_neg c7] at hs8
            refine lv_iload hx hb dX4_fewestSpeakers_48 (lv_at hl 1 rfl) ?_
            refine lv_istore_n (lv' := [(2, .int x8_l4), (5, .int o3), (4, .int x8_l4), (3, .int x8_l3), (0, .ref ax), (1, .int p0)]) hx hb dX4_fewestSpeakers_50 rfl hl (by decide) rfl (fun ls hl => ?_)
            refine lv_iload hx hb dX4_fewestSpeakers_51 (lv_at hl 1 rfl) ?_
            refine lv_istore_n (lv' := [(3, .int o3), (2, .int x8_l4), (5, .int o3), (4, .int x8_l4), (0, .ref ax), (1, .int p0)]) hx hb dX4_fewestSpeakers_53 rfl hl (by decide) rfl (fun ls hl => ?_)
            refine lv_iinc (v := (x8_l4 + 1)) (lv' := [(4, .int (x8_l4 + 1)), (3, .int o3), (2, .int x8_l4), (5, .int o3), (0, .ref ax), (1, .int p0)]) hx hb dX4_fewestSpeakers_54 hl (k := 3) rfl (by rfl) (by decide) rfl (fun ls hl => ?_)
            refine lv_goto (tgt := 8) hx hb dX4_fewestSpeakers_57 (by decide) ?_
            obtain rfl := Option.some.inj hs8
            exact ih8 _ _ _ _ _ _ hw8 hP hD hS (lv_sub hl [0, 1, 2, 4, 5] rfl)
  exact lp8 5000 _ _ _ _ _ _ hr1 hP hD hS (lv_sub hl [0, 1, 2, 3, 4] rfl)
