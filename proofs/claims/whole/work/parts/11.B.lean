def f_X3_copyFrom (vw : Nat → Int32) (vk : Nat → Int32) (vr : Nat → Int32) (vp : Nat → Int32) (vb : Nat → Int32) (vi : Nat → Int32) (vl : Nat → Int32) (vg : Nat → Int32) (vo : Nat → Int32) (vwo : Nat → Int32) (vko : Nat → Int32) (vro : Nat → Int32) (vpo : Nat → Int32) (vbo : Nat → Int32) (vio : Nat → Int32) (vwco : Int32) (vlo : Nat → Int32) (vgo : Nat → Int32) (voo : Nat → Int32) (vsco : Int32) : Option ((Nat → Int32) × (Nat → Int32) × (Nat → Int32) × (Nat → Int32) × (Nat → Int32) × (Nat → Int32) × Int32 × (Nat → Int32) × (Nat → Int32) × (Nat → Int32) × Int32) := ob (f_X4_copyRow 12 vwo vw) (fun o1 => ob (f_X4_copyRow 12 vko vk) (fun o2 => ob (f_X4_copyRow 12 vro vr) (fun o3 => ob (f_X4_copyRow 4 vpo vp) (fun o4 => ob (f_X4_copyRow 4 vbo vb) (fun o5 => ob (f_X4_copyRow 8 vio vi) (fun o6 => ob (f_X4_copyRow 6 vlo vl) (fun o7 => ob (f_X4_copyRow 6 vgo vg) (fun o8 => ob (f_X4_copyRow 6 voo vo) (fun o9 => some (o1, o2, o3, o4, o5, o6, vwco, o7, o8, o9, vsco))))))))))
theorem inX3_copyFrom_X3 : ∀ w ∈ wsX30, w ∈ wsX3_copyFrom := fun w h => List.mem_cons_of_mem _ (List.mem_append_right _ h)
theorem yd_X3_copyFrom : yX3_copyFrom.cls ≠ "java/lang/invoke/MethodHandle" ∧ yX3_copyFrom.cls ≠ "java/lang/invoke/VarHandle" ∧ (parseMethodDescriptor yX3_copyFrom.desc).map (fun d => d.parameters.length) = some 1 := by decide +kernel
abbrev rmX3_copyFrom : Room := { frames := 1, cells := 0, slots := 0, locals := 22 }
set_option maxHeartbeats 4000000 in
set_option maxRecDepth 100000 in
theorem k_X3_copyFrom (l : Launch) (D : va_G) (K : Nat → ClassId) (q : Nat → Nat) (qo : Nat → Nat) (vw : Nat → Int32) (vk : Nat → Int32) (vr : Nat → Int32) (vp : Nat → Int32) (vb : Nat → Int32) (vi : Nat → Int32) (vwc : Int32) (vl : Nat → Int32) (vg : Nat → Int32) (vo : Nat → Int32) (vsc : Int32) (vwo : Nat → Int32) (vko : Nat → Int32) (vro : Nat → Int32) (vpo : Nat → Int32) (vbo : Nat → Int32) (vio : Nat → Int32) (vwco : Int32) (vlo : Nat → Int32) (vgo : Nat → Int32) (voo : Nat → Int32) (vsco : Int32) (out : (Nat → Int32) × (Nat → Int32) × (Nat → Int32) × (Nat → Int32) × (Nat → Int32) × (Nat → Int32) × Int32 × (Nat → Int32) × (Nat → Int32) × (Nat → Int32) × Int32) (hf : f_X3_copyFrom vw vk vr vp vb vi vl vg vo vwo vko vro vpo vbo vio vwco vlo vgo voo vsco = some out) : kV l D K yX3_copyFrom wsX3_copyFrom rmX3_copyFrom [.ref (q 0), .ref (qo 0)] ((shW K q vw vk vr vp vb vi vwc vl vg vo vsc) ++ (shW K qo vwo vko vro vpo vbo vio vwco vlo vgo voo vsco)) ((shW K q out.1 out.2.1 out.2.2.1 out.2.2.2.1 out.2.2.2.2.1 out.2.2.2.2.2.1 out.2.2.2.2.2.2.1 out.2.2.2.2.2.2.2.1 out.2.2.2.2.2.2.2.2.1 out.2.2.2.2.2.2.2.2.2.1 out.2.2.2.2.2.2.2.2.2.2) ++ (shW K qo vwo vko vro vpo vbo vio vwco vlo vgo voo vsco)) := by
  refine kV.of (cc := cX3_copyFrom) (maxL := 2) (by decide) rfl (Nat.le_of_ble_eq_true rfl) ?_
  intro p e s m args below meth c A H0 Q ls hx hb hml hown hts hK hN hA hP hD hS hl hret
  have hown : s.vm.findClass RX3 = some m.cls := hown
  have hl : lv_has ls 2 [(0, .ref (q 0)), (1, .ref (qo 0))] := hl
  generalize hH : H0 = H at hP ⊢
  have hS : va_S A H0 H [] := by rw [← hH]; exact hS
  clear hH
  unfold f_X3_copyFrom at hf
  refine lv_aload_n hx hb dX3_copyFrom_0 rfl (lv_at hl 1 rfl) ?_
  refine va_get (D := D) (ci := 3) (v := .ref (qo 1)) (C := RX3) (T := TX3) (N := 11) hx hb hts inX3_copyFrom_X3 hown hK hP 10 rfl rfl 0 (by decide) (hts (.fieldLink RX3 9 "WordScales$Shop" "weights" "[I") (List.mem_of_getElem? (i := 1) rfl)) (fun _ h9 => h9) rfl dX3_copyFrom_1 ?_
  refine lv_aload_n hx hb dX3_copyFrom_4 rfl (lv_at hl 0 rfl) ?_
  refine va_get (D := D) (ci := 3) (v := .ref (q 1)) (C := RX3) (T := TX3) (N := 11) hx hb hts inX3_copyFrom_X3 hown hK hP 0 rfl rfl 0 (by decide) (hts (.fieldLink RX3 9 "WordScales$Shop" "weights" "[I") (List.mem_of_getElem? (i := 1) rfl)) (fun _ h9 => h9) rfl dX3_copyFrom_5 ?_
  obtain ⟨o1, ho1, hf⟩ := ob_el hf
  have hPc : va_P D vwCl ((iaW K (qo 1) 12 vwo) ++ (iaW K (q 1) 12 vw)) H := hP.sub [11, 1] rfl
  have hDc : va_D A ((iaW K (qo 1) 12 vwo) ++ (iaW K (q 1) 12 vw)) := hD.sub [11, 1] (by decide) rfl
  refine kcg_v (D := D) (wc := ((iaW K (qo 1) 12 vwo) ++ (iaW K (q 1) 12 vw))) (wc' := ((iaW K (qo 1) 12 vwo) ++ (iaW K (q 1) 12 o1))) (wr := [0, 2, 3, 4, 5, 6, 7, 8, 9, 10, 12, 13, 14, 15, 16, 17, 18, 19].filterMap (fun i => (((shW K q vw vk vr vp vb vi vwc vl vg vo vsc) ++ (shW K qo vwo vko vro vpo vbo vio vwco vlo vgo voo vsco)) : va_W)[i]?)) (ws2 := ((shW K q o1 vk vr vp vb vi vwc vl vg vo vsc) ++ (shW K qo vwo vko vro vpo vbo vio vwco vlo vgo voo vsco))) (va_runSN (As := [.ref (qo 1), .ref (q 1)]) (rest := []) ⟨hx, hb, hml, hown, hts⟩ ((k_X4_copyRow l D K (qo 1) (q 1) 12 vwo vw o1 ho1) H.size) ⟨va_cnB 2 hts gX3_copyFrom_X4_copyRow_n46 rfl rfl rfl (hN _ (List.mem_of_getElem? (i := 38) rfl)) (hts (.initialized RX4) (List.mem_of_getElem? (i := 13) rfl)) yd_X4_copyRow ⟨Nat.le_of_ble_eq_true rfl, Nat.le_of_ble_eq_true rfl⟩, (hts (.static yX4_copyRow) (List.mem_of_getElem? (i := 12) rfl)), trivial⟩ (kPreS hPc hDc hK hN) rfl rfl hl.1 rfl (lv_room (Nat.le_of_ble_eq_true rfl)) dX3_copyFrom_8 ⟨Nat.le_of_ble_eq_true rfl, Nat.le_of_ble_eq_true rfl⟩) hP hD hS hA [11, 1] [0, 2, 3, 4, 5, 6, 7, 8, 9, 10, 12, 13, 14, 15, 16, 17, 18, 19] [0, 19, 1, 2, 3, 4, 5, 6, 7, 8, 9, 18, 10, 11, 12, 13, 14, 15, 16, 17] rfl rfl (by decide) (by decide) rfl (by decide) (fun H locs hP hD hS => ?_)
  refine lv_aload_n hx hb dX3_copyFrom_11 rfl (lv_at hl 1 rfl) ?_
  refine va_get (D := D) (ci := 3) (v := .ref (qo 2)) (C := RX3) (T := TX3) (N := 11) hx hb hts inX3_copyFrom_X3 hown hK hP 10 rfl rfl 1 (by decide) (hts (.fieldLink RX3 15 "WordScales$Shop" "kinds" "[I") (List.mem_of_getElem? (i := 2) rfl)) (fun _ h9 => h9) rfl dX3_copyFrom_12 ?_
  refine lv_aload_n hx hb dX3_copyFrom_15 rfl (lv_at hl 0 rfl) ?_
  refine va_get (D := D) (ci := 3) (v := .ref (q 2)) (C := RX3) (T := TX3) (N := 11) hx hb hts inX3_copyFrom_X3 hown hK hP 0 rfl rfl 1 (by decide) (hts (.fieldLink RX3 15 "WordScales$Shop" "kinds" "[I") (List.mem_of_getElem? (i := 2) rfl)) (fun _ h9 => h9) rfl dX3_copyFrom_16 ?_
  obtain ⟨o2, ho2, hf⟩ := ob_el hf
  have hPc : va_P D vwCl ((iaW K (qo 2) 12 vko) ++ (iaW K (q 2) 12 vk)) H := hP.sub [12, 2] rfl
  have hDc : va_D A ((iaW K (qo 2) 12 vko) ++ (iaW K (q 2) 12 vk)) := hD.sub [12, 2] (by decide) rfl
  refine kcg_v (D := D) (wc := ((iaW K (qo 2) 12 vko) ++ (iaW K (q 2) 12 vk))) (wc' := ((iaW K (qo 2) 12 vko) ++ (iaW K (q 2) 12 o2))) (wr := [0, 1, 3, 4, 5, 6, 7, 8, 9, 10, 11, 13, 14, 15, 16, 17, 18, 19].filterMap (fun i => (((shW K q o1 vk vr vp vb vi vwc vl vg vo vsc) ++ (shW K qo vwo vko vro vpo vbo vio vwco vlo vgo voo vsco)) : va_W)[i]?)) (ws2 := ((shW K q o1 o2 vr vp vb vi vwc vl vg vo vsc) ++ (shW K qo vwo vko vro vpo vbo vio vwco vlo vgo voo vsco))) (va_runSN (As := [.ref (qo 2), .ref (q 2)]) (rest := []) ⟨hx, hb, hml, hown, hts⟩ ((k_X4_copyRow l D K (qo 2) (q 2) 12 vko vk o2 ho2) H.size) ⟨va_cnB 2 hts gX3_copyFrom_X4_copyRow_n46 rfl rfl rfl (hN _ (List.mem_of_getElem? (i := 38) rfl)) (hts (.initialized RX4) (List.mem_of_getElem? (i := 13) rfl)) yd_X4_copyRow ⟨Nat.le_of_ble_eq_true rfl, Nat.le_of_ble_eq_true rfl⟩, (hts (.static yX4_copyRow) (List.mem_of_getElem? (i := 12) rfl)), trivial⟩ (kPreS hPc hDc hK hN) rfl rfl hl.1 rfl (lv_room (Nat.le_of_ble_eq_true rfl)) dX3_copyFrom_19 ⟨Nat.le_of_ble_eq_true rfl, Nat.le_of_ble_eq_true rfl⟩) hP hD hS hA [12, 2] [0, 1, 3, 4, 5, 6, 7, 8, 9, 10, 11, 13, 14, 15, 16, 17, 18, 19] [0, 1, 19, 2, 3, 4, 5, 6, 7, 8, 9, 10, 18, 11, 12, 13, 14, 15, 16, 17] rfl rfl (by decide) (by decide) rfl (by decide) (fun H locs hP hD hS => ?_)
  refine lv_aload_n hx hb dX3_copyFrom_22 rfl (lv_at hl 1 rfl) ?_
  refine va_get (D := D) (ci := 3) (v := .ref (qo 3)) (C := RX3) (T := TX3) (N := 11) hx hb hts inX3_copyFrom_X3 hown hK hP 10 rfl rfl 2 (by decide) (hts (.fieldLink RX3 18 "WordScales$Shop" "rhymes" "[I") (List.mem_of_getElem? (i := 3) rfl)) (fun _ h9 => h9) rfl dX3_copyFrom_23 ?_
  refine lv_aload_n hx hb dX3_copyFrom_26 rfl (lv_at hl 0 rfl) ?_
  refine va_get (D := D) (ci := 3) (v := .ref (q 3)) (C := RX3) (T := TX3) (N := 11) hx hb hts inX3_copyFrom_X3 hown hK hP 0 rfl rfl 2 (by decide) (hts (.fieldLink RX3 18 "WordScales$Shop" "rhymes" "[I") (List.mem_of_getElem? (i := 3) rfl)) (fun _ h9 => h9) rfl dX3_copyFrom_27 ?_
  obtain ⟨o3, ho3, hf⟩ := ob_el hf
  have hPc : va_P D vwCl ((iaW K (qo 3) 12 vro) ++ (iaW K (q 3) 12 vr)) H := hP.sub [13, 3] rfl
  have hDc : va_D A ((iaW K (qo 3) 12 vro) ++ (iaW K (q 3) 12 vr)) := hD.sub [13, 3] (by decide) rfl
  refine kcg_v (D := D) (wc := ((iaW K (qo 3) 12 vro) ++ (iaW K (q 3) 12 vr))) (wc' := ((iaW K (qo 3) 12 vro) ++ (iaW K (q 3) 12 o3))) (wr := [0, 1, 2, 4, 5, 6, 7, 8, 9, 10, 11, 12, 14, 15, 16, 17, 18, 19].filterMap (fun i => (((shW K q o1 o2 vr vp vb vi vwc vl vg vo vsc) ++ (shW K qo vwo vko vro vpo vbo vio vwco vlo vgo voo vsco)) : va_W)[i]?)) (ws2 := ((shW K q o1 o2 o3 vp vb vi vwc vl vg vo vsc) ++ (shW K qo vwo vko vro vpo vbo vio vwco vlo vgo voo vsco))) (va_runSN (As := [.ref (qo 3), .ref (q 3)]) (rest := []) ⟨hx, hb, hml, hown, hts⟩ ((k_X4_copyRow l D K (qo 3) (q 3) 12 vro vr o3 ho3) H.size) ⟨va_cnB 2 hts gX3_copyFrom_X4_copyRow_n46 rfl rfl rfl (hN _ (List.mem_of_getElem? (i := 38) rfl)) (hts (.initialized RX4) (List.mem_of_getElem? (i := 13) rfl)) yd_X4_copyRow ⟨Nat.le_of_ble_eq_true rfl, Nat.le_of_ble_eq_true rfl⟩, (hts (.static yX4_copyRow) (List.mem_of_getElem? (i := 12) rfl)), trivial⟩ (kPreS hPc hDc hK hN) rfl rfl hl.1 rfl (lv_room (Nat.le_of_ble_eq_true rfl)) dX3_copyFrom_30 ⟨Nat.le_of_ble_eq_true rfl, Nat.le_of_ble_eq_true rfl⟩) hP hD hS hA [13, 3] [0, 1, 2, 4, 5, 6, 7, 8, 9, 10, 11, 12, 14, 15, 16, 17, 18, 19] [0, 1, 2, 19, 3, 4, 5, 6, 7, 8, 9, 10, 11, 18, 12, 13, 14, 15, 16, 17] rfl rfl (by decide) (by decide) rfl (by decide) (fun H locs hP hD hS => ?_)
  refine lv_aload_n hx hb dX3_copyFrom_33 rfl (lv_at hl 1 rfl) ?_
  refine va_get (D := D) (ci := 3) (v := .ref (qo 4)) (C := RX3) (T := TX3) (N := 11) hx hb hts inX3_copyFrom_X3 hown hK hP 10 rfl rfl 3 (by decide) (hts (.fieldLink RX3 21 "WordScales$Shop" "purses" "[I") (List.mem_of_getElem? (i := 4) rfl)) (fun _ h9 => h9) rfl dX3_copyFrom_34 ?_
  refine lv_aload_n hx hb dX3_copyFrom_37 rfl (lv_at hl 0 rfl) ?_
  refine va_get (D := D) (ci := 3) (v := .ref (q 4)) (C := RX3) (T := TX3) (N := 11) hx hb hts inX3_copyFrom_X3 hown hK hP 0 rfl rfl 3 (by decide) (hts (.fieldLink RX3 21 "WordScales$Shop" "purses" "[I") (List.mem_of_getElem? (i := 4) rfl)) (fun _ h9 => h9) rfl dX3_copyFrom_38 ?_
  obtain ⟨o4, ho4, hf⟩ := ob_el hf
  have hPc : va_P D vwCl ((iaW K (qo 4) 4 vpo) ++ (iaW K (q 4) 4 vp)) H := hP.sub [14, 4] rfl
  have hDc : va_D A ((iaW K (qo 4) 4 vpo) ++ (iaW K (q 4) 4 vp)) := hD.sub [14, 4] (by decide) rfl
  refine kcg_v (D := D) (wc := ((iaW K (qo 4) 4 vpo) ++ (iaW K (q 4) 4 vp))) (wc' := ((iaW K (qo 4) 4 vpo) ++ (iaW K (q 4) 4 o4))) (wr := [0, 1, 2, 3, 5, 6, 7, 8, 9, 10, 11, 12, 13, 15, 16, 17, 18, 19].filterMap (fun i => (((shW K q o1 o2 o3 vp vb vi vwc vl vg vo vsc) ++ (shW K qo vwo vko vro vpo vbo vio vwco vlo vgo voo vsco)) : va_W)[i]?)) (ws2 := ((shW K q o1 o2 o3 o4 vb vi vwc vl vg vo vsc) ++ (shW K qo vwo vko vro vpo vbo vio vwco vlo vgo voo vsco))) (va_runSN (As := [.ref (qo 4), .ref (q 4)]) (rest := []) ⟨hx, hb, hml, hown, hts⟩ ((k_X4_copyRow l D K (qo 4) (q 4) 4 vpo vp o4 ho4) H.size) ⟨va_cnB 2 hts gX3_copyFrom_X4_copyRow_n46 rfl rfl rfl (hN _ (List.mem_of_getElem? (i := 38) rfl)) (hts (.initialized RX4) (List.mem_of_getElem? (i := 13) rfl)) yd_X4_copyRow ⟨Nat.le_of_ble_eq_true rfl, Nat.le_of_ble_eq_true rfl⟩, (hts (.static yX4_copyRow) (List.mem_of_getElem? (i := 12) rfl)), trivial⟩ (kPreS hPc hDc hK hN) rfl rfl hl.1 rfl (lv_room (Nat.le_of_ble_eq_true rfl)) dX3_copyFrom_41 ⟨Nat.le_of_ble_eq_true rfl, Nat.le_of_ble_eq_true rfl⟩) hP hD hS hA [14, 4] [0, 1, 2, 3, 5, 6, 7, 8, 9, 10, 11, 12, 13, 15, 16, 17, 18, 19] [0, 1, 2, 3, 19, 4, 5, 6, 7, 8, 9, 10, 11, 12, 18, 13, 14, 15, 16, 17] rfl rfl (by decide) (by decide) rfl (by decide) (fun H locs hP hD hS => ?_)
  refine lv_aload_n hx hb dX3_copyFrom_44 rfl (lv_at hl 1 rfl) ?_
  refine va_get (D := D) (ci := 3) (v := .ref (qo 5)) (C := RX3) (T := TX3) (N := 11) hx hb hts inX3_copyFrom_X3 hown hK hP 10 rfl rfl 4 (by decide) (hts (.fieldLink RX3 24 "WordScales$Shop" "belongings" "[I") (List.mem_of_getElem? (i := 5) rfl)) (fun _ h9 => h9) rfl dX3_copyFrom_45 ?_
  refine lv_aload_n hx hb dX3_copyFrom_48 rfl (lv_at hl 0 rfl) ?_
  refine va_get (D := D) (ci := 3) (v := .ref (q 5)) (C := RX3) (T := TX3) (N := 11) hx hb hts inX3_copyFrom_X3 hown hK hP 0 rfl rfl 4 (by decide) (hts (.fieldLink RX3 24 "WordScales$Shop" "belongings" "[I") (List.mem_of_getElem? (i := 5) rfl)) (fun _ h9 => h9) rfl dX3_copyFrom_49 ?_
  obtain ⟨o5, ho5, hf⟩ := ob_el hf
  have hPc : va_P D vwCl ((iaW K (qo 5) 4 vbo) ++ (iaW K (q 5) 4 vb)) H := hP.sub [15, 5] rfl
  have hDc : va_D A ((iaW K (qo 5) 4 vbo) ++ (iaW K (q 5) 4 vb)) := hD.sub [15, 5] (by decide) rfl
  refine kcg_v (D := D) (wc := ((iaW K (qo 5) 4 vbo) ++ (iaW K (q 5) 4 vb))) (wc' := ((iaW K (qo 5) 4 vbo) ++ (iaW K (q 5) 4 o5))) (wr := [0, 1, 2, 3, 4, 6, 7, 8, 9, 10, 11, 12, 13, 14, 16, 17, 18, 19].filterMap (fun i => (((shW K q o1 o2 o3 o4 vb vi vwc vl vg vo vsc) ++ (shW K qo vwo vko vro vpo vbo vio vwco vlo vgo voo vsco)) : va_W)[i]?)) (ws2 := ((shW K q o1 o2 o3 o4 o5 vi vwc vl vg vo vsc) ++ (shW K qo vwo vko vro vpo vbo vio vwco vlo vgo voo vsco))) (va_runSN (As := [.ref (qo 5), .ref (q 5)]) (rest := []) ⟨hx, hb, hml, hown, hts⟩ ((k_X4_copyRow l D K (qo 5) (q 5) 4 vbo vb o5 ho5) H.size) ⟨va_cnB 2 hts gX3_copyFrom_X4_copyRow_n46 rfl rfl rfl (hN _ (List.mem_of_getElem? (i := 38) rfl)) (hts (.initialized RX4) (List.mem_of_getElem? (i := 13) rfl)) yd_X4_copyRow ⟨Nat.le_of_ble_eq_true rfl, Nat.le_of_ble_eq_true rfl⟩, (hts (.static yX4_copyRow) (List.mem_of_getElem? (i := 12) rfl)), trivial⟩ (kPreS hPc hDc hK hN) rfl rfl hl.1 rfl (lv_room (Nat.le_of_ble_eq_true rfl)) dX3_copyFrom_52 ⟨Nat.le_of_ble_eq_true rfl, Nat.le_of_ble_eq_true rfl⟩) hP hD hS hA [15, 5] [0, 1, 2, 3, 4, 6, 7, 8, 9, 10, 11, 12, 13, 14, 16, 17, 18, 19] [0, 1, 2, 3, 4, 19, 5, 6, 7, 8, 9, 10, 11, 12, 13, 18, 14, 15, 16, 17] rfl rfl (by decide) (by decide) rfl (by decide) (fun H locs hP hD hS => ?_)
  refine lv_aload_n hx hb dX3_copyFrom_55 rfl (lv_at hl 1 rfl) ?_
  refine va_get (D := D) (ci := 3) (v := .ref (qo 6)) (C := RX3) (T := TX3) (N := 11) hx hb hts inX3_copyFrom_X3 hown hK hP 10 rfl rfl 5 (by decide) (hts (.fieldLink RX3 27 "WordScales$Shop" "wishes" "[I") (List.mem_of_getElem? (i := 6) rfl)) (fun _ h9 => h9) rfl dX3_copyFrom_56 ?_
  refine lv_aload_n hx hb dX3_copyFrom_59 rfl (lv_at hl 0 rfl) ?_
  refine va_get (D := D) (ci := 3) (v := .ref (q 6)) (C := RX3) (T := TX3) (N := 11) hx hb hts inX3_copyFrom_X3 hown hK hP 0 rfl rfl 5 (by decide) (hts (.fieldLink RX3 27 "WordScales$Shop" "wishes" "[I") (List.mem_of_getElem? (i := 6) rfl)) (fun _ h9 => h9) rfl dX3_copyFrom_60 ?_
  obtain ⟨o6, ho6, hf⟩ := ob_el hf
  have hPc : va_P D vwCl ((iaW K (qo 6) 8 vio) ++ (iaW K (q 6) 8 vi)) H := hP.sub [16, 6] rfl
  have hDc : va_D A ((iaW K (qo 6) 8 vio) ++ (iaW K (q 6) 8 vi)) := hD.sub [16, 6] (by decide) rfl
  refine kcg_v (D := D) (wc := ((iaW K (qo 6) 8 vio) ++ (iaW K (q 6) 8 vi))) (wc' := ((iaW K (qo 6) 8 vio) ++ (iaW K (q 6) 8 o6))) (wr := [0, 1, 2, 3, 4, 5, 7, 8, 9, 10, 11, 12, 13, 14, 15, 17, 18, 19].filterMap (fun i => (((shW K q o1 o2 o3 o4 o5 vi vwc vl vg vo vsc) ++ (shW K qo vwo vko vro vpo vbo vio vwco vlo vgo voo vsco)) : va_W)[i]?)) (ws2 := ((shW K q o1 o2 o3 o4 o5 o6 vwc vl vg vo vsc) ++ (shW K qo vwo vko vro vpo vbo vio vwco vlo vgo voo vsco))) (va_runSN (As := [.ref (qo 6), .ref (q 6)]) (rest := []) ⟨hx, hb, hml, hown, hts⟩ ((k_X4_copyRow l D K (qo 6) (q 6) 8 vio vi o6 ho6) H.size) ⟨va_cnB 2 hts gX3_copyFrom_X4_copyRow_n46 rfl rfl rfl (hN _ (List.mem_of_getElem? (i := 38) rfl)) (hts (.initialized RX4) (List.mem_of_getElem? (i := 13) rfl)) yd_X4_copyRow ⟨Nat.le_of_ble_eq_true rfl, Nat.le_of_ble_eq_true rfl⟩, (hts (.static yX4_copyRow) (List.mem_of_getElem? (i := 12) rfl)), trivial⟩ (kPreS hPc hDc hK hN) rfl rfl hl.1 rfl (lv_room (Nat.le_of_ble_eq_true rfl)) dX3_copyFrom_63 ⟨Nat.le_of_ble_eq_true rfl, Nat.le_of_ble_eq_true rfl⟩) hP hD hS hA [16, 6] [0, 1, 2, 3, 4, 5, 7, 8, 9, 10, 11, 12, 13, 14, 15, 17, 18, 19] [0, 1, 2, 3, 4, 5, 19, 6, 7, 8, 9, 10, 11, 12, 13, 14, 18, 15, 16, 17] rfl rfl (by decide) (by decide) rfl (by decide) (fun H locs hP hD hS => ?_)
  refine lv_aload_n hx hb dX3_copyFrom_66 rfl (lv_at hl 0 rfl) ?_
  refine lv_aload_n hx hb dX3_copyFrom_67 rfl (lv_at hl 1 rfl) ?_
  refine va_get (D := D) (ci := 3) (v := .int vwco) (C := RX3) (T := TX3) (N := 11) hx hb hts inX3_copyFrom_X3 hown hK hP 10 rfl rfl 6 (by decide) (hts (.fieldLink RX3 30 "WordScales$Shop" "wishCount" "I") (List.mem_of_getElem? (i := 7) rfl)) (fun _ h9 => h9) rfl dX3_copyFrom_68 ?_
  refine va_put (D := D) (ci := 3) (v := .int vwco) (ty := .int) (C := RX3) (T := TX3) (N := 11) hx hb hts inX3_copyFrom_X3 tyX3 tyX3_ok nmX3 hown hK hP hD hS 0 rfl rfl 6 (by decide) (hts (.fieldLink RX3 30 "WordScales$Shop" "wishCount" "I") (List.mem_of_getElem? (i := 7) rfl)) (fun _ h9 => h9) rfl (tyX3_ok 6 (by decide)) rfl rfl (Nat.le_of_ble_eq_true rfl) dX3_copyFrom_71 (fun H locs hP hD hS => ?_)
  have hP : va_P D vwCl ((shW K q o1 o2 o3 o4 o5 o6 vwco vl vg vo vsc) ++ (shW K qo vwo vko vro vpo vbo vio vwco vlo vgo voo vsco)) H := hP
  have hD : va_D A ((shW K q o1 o2 o3 o4 o5 o6 vwco vl vg vo vsc) ++ (shW K qo vwo vko vro vpo vbo vio vwco vlo vgo voo vsco)) := hD
  refine lv_aload_n hx hb dX3_copyFrom_74 rfl (lv_at hl 1 rfl) ?_
  refine va_get (D := D) (ci := 3) (v := .ref (qo 7)) (C := RX3) (T := TX3) (N := 11) hx hb hts inX3_copyFrom_X3 hown hK hP 10 rfl rfl 7 (by decide) (hts (.fieldLink RX3 34 "WordScales$Shop" "lefts" "[I") (List.mem_of_getElem? (i := 8) rfl)) (fun _ h9 => h9) rfl dX3_copyFrom_75 ?_
  refine lv_aload_n hx hb dX3_copyFrom_78 rfl (lv_at hl 0 rfl) ?_
  refine va_get (D := D) (ci := 3) (v := .ref (q 7)) (C := RX3) (T := TX3) (N := 11) hx hb hts inX3_copyFrom_X3 hown hK hP 0 rfl rfl 7 (by decide) (hts (.fieldLink RX3 34 "WordScales$Shop" "lefts" "[I") (List.mem_of_getElem? (i := 8) rfl)) (fun _ h9 => h9) rfl dX3_copyFrom_79 ?_
  obtain ⟨o7, ho7, hf⟩ := ob_el hf
  have hPc : va_P D vwCl ((iaW K (qo 7) 6 vlo) ++ (iaW K (q 7) 6 vl)) H := hP.sub [17, 7] rfl
  have hDc : va_D A ((iaW K (qo 7) 6 vlo) ++ (iaW K (q 7) 6 vl)) := hD.sub [17, 7] (by decide) rfl
  refine kcg_v (D := D) (wc := ((iaW K (qo 7) 6 vlo) ++ (iaW K (q 7) 6 vl))) (wc' := ((iaW K (qo 7) 6 vlo) ++ (iaW K (q 7) 6 o7))) (wr := [0, 1, 2, 3, 4, 5, 6, 8, 9, 10, 11, 12, 13, 14, 15, 16, 18, 19].filterMap (fun i => (((shW K q o1 o2 o3 o4 o5 o6 vwco vl vg vo vsc) ++ (shW K qo vwo vko vro vpo vbo vio vwco vlo vgo voo vsco)) : va_W)[i]?)) (ws2 := ((shW K q o1 o2 o3 o4 o5 o6 vwco o7 vg vo vsc) ++ (shW K qo vwo vko vro vpo vbo vio vwco vlo vgo voo vsco))) (va_runSN (As := [.ref (qo 7), .ref (q 7)]) (rest := []) ⟨hx, hb, hml, hown, hts⟩ ((k_X4_copyRow l D K (qo 7) (q 7) 6 vlo vl o7 ho7) H.size) ⟨va_cnB 2 hts gX3_copyFrom_X4_copyRow_n46 rfl rfl rfl (hN _ (List.mem_of_getElem? (i := 38) rfl)) (hts (.initialized RX4) (List.mem_of_getElem? (i := 13) rfl)) yd_X4_copyRow ⟨Nat.le_of_ble_eq_true rfl, Nat.le_of_ble_eq_true rfl⟩, (hts (.static yX4_copyRow) (List.mem_of_getElem? (i := 12) rfl)), trivial⟩ (kPreS hPc hDc hK hN) rfl rfl hl.1 rfl (lv_room (Nat.le_of_ble_eq_true rfl)) dX3_copyFrom_82 ⟨Nat.le_of_ble_eq_true rfl, Nat.le_of_ble_eq_true rfl⟩) hP hD hS hA [17, 7] [0, 1, 2, 3, 4, 5, 6, 8, 9, 10, 11, 12, 13, 14, 15, 16, 18, 19] [0, 1, 2, 3, 4, 5, 6, 19, 7, 8, 9, 10, 11, 12, 13, 14, 15, 18, 16, 17] rfl rfl (by decide) (by decide) rfl (by decide) (fun H locs hP hD hS => ?_)
  refine lv_aload_n hx hb dX3_copyFrom_85 rfl (lv_at hl 1 rfl) ?_
  refine va_get (D := D) (ci := 3) (v := .ref (qo 8)) (C := RX3) (T := TX3) (N := 11) hx hb hts inX3_copyFrom_X3 hown hK hP 10 rfl rfl 8 (by decide) (hts (.fieldLink RX3 37 "WordScales$Shop" "rights" "[I") (List.mem_of_getElem? (i := 9) rfl)) (fun _ h9 => h9) rfl dX3_copyFrom_86 ?_
  refine lv_aload_n hx hb dX3_copyFrom_89 rfl (lv_at hl 0 rfl) ?_
  refine va_get (D := D) (ci := 3) (v := .ref (q 8)) (C := RX3) (T := TX3) (N := 11) hx hb hts inX3_copyFrom_X3 hown hK hP 0 rfl rfl 8 (by decide) (hts (.fieldLink RX3 37 "WordScales$Shop" "rights" "[I") (List.mem_of_getElem? (i := 9) rfl)) (fun _ h9 => h9) rfl dX3_copyFrom_90 ?_
  obtain ⟨o8, ho8, hf⟩ := ob_el hf
  have hPc : va_P D vwCl ((iaW K (qo 8) 6 vgo) ++ (iaW K (q 8) 6 vg)) H := hP.sub [18, 8] rfl
  have hDc : va_D A ((iaW K (qo 8) 6 vgo) ++ (iaW K (q 8) 6 vg)) := hD.sub [18, 8] (by decide) rfl
  refine kcg_v (D := D) (wc := ((iaW K (qo 8) 6 vgo) ++ (iaW K (q 8) 6 vg))) (wc' := ((iaW K (qo 8) 6 vgo) ++ (iaW K (q 8) 6 o8))) (wr := [0, 1, 2, 3, 4, 5, 6, 7, 9, 10, 11, 12, 13, 14, 15, 16, 17, 19].filterMap (fun i => (((shW K q o1 o2 o3 o4 o5 o6 vwco o7 vg vo vsc) ++ (shW K qo vwo vko vro vpo vbo vio vwco vlo vgo voo vsco)) : va_W)[i]?)) (ws2 := ((shW K q o1 o2 o3 o4 o5 o6 vwco o7 o8 vo vsc) ++ (shW K qo vwo vko vro vpo vbo vio vwco vlo vgo voo vsco))) (va_runSN (As := [.ref (qo 8), .ref (q 8)]) (rest := []) ⟨hx, hb, hml, hown, hts⟩ ((k_X4_copyRow l D K (qo 8) (q 8) 6 vgo vg o8 ho8) H.size) ⟨va_cnB 2 hts gX3_copyFrom_X4_copyRow_n46 rfl rfl rfl (hN _ (List.mem_of_getElem? (i := 38) rfl)) (hts (.initialized RX4) (List.mem_of_getElem? (i := 13) rfl)) yd_X4_copyRow ⟨Nat.le_of_ble_eq_true rfl, Nat.le_of_ble_eq_true rfl⟩, (hts (.static yX4_copyRow) (List.mem_of_getElem? (i := 12) rfl)), trivial⟩ (kPreS hPc hDc hK hN) rfl rfl hl.1 rfl (lv_room (Nat.le_of_ble_eq_true rfl)) dX3_copyFrom_93 ⟨Nat.le_of_ble_eq_true rfl, Nat.le_of_ble_eq_true rfl⟩) hP hD hS hA [18, 8] [0, 1, 2, 3, 4, 5, 6, 7, 9, 10, 11, 12, 13, 14, 15, 16, 17, 19] [0, 1, 2, 3, 4, 5, 6, 7, 19, 8, 9, 10, 11, 12, 13, 14, 15, 16, 18, 17] rfl rfl (by decide) (by decide) rfl (by decide) (fun H locs hP hD hS => ?_)
  refine lv_aload_n hx hb dX3_copyFrom_96 rfl (lv_at hl 1 rfl) ?_
  refine va_get (D := D) (ci := 3) (v := .ref (qo 9)) (C := RX3) (T := TX3) (N := 11) hx hb hts inX3_copyFrom_X3 hown hK hP 10 rfl rfl 9 (by decide) (hts (.fieldLink RX3 40 "WordScales$Shop" "outcomes" "[I") (List.mem_of_getElem? (i := 10) rfl)) (fun _ h9 => h9) rfl dX3_copyFrom_97 ?_
  refine lv_aload_n hx hb dX3_copyFrom_100 rfl (lv_at hl 0 rfl) ?_
  refine va_get (D := D) (ci := 3) (v := .ref (q 9)) (C := RX3) (T := TX3) (N := 11) hx hb hts inX3_copyFrom_X3 hown hK hP 0 rfl rfl 9 (by decide) (hts (.fieldLink RX3 40 "WordScales$Shop" "outcomes" "[I") (List.mem_of_getElem? (i := 10) rfl)) (fun _ h9 => h9) rfl dX3_copyFrom_101 ?_
  obtain ⟨o9, ho9, hf⟩ := ob_el hf
  have hPc : va_P D vwCl ((iaW K (qo 9) 6 voo) ++ (iaW K (q 9) 6 vo)) H := hP.sub [19, 9] rfl
  have hDc : va_D A ((iaW K (qo 9) 6 voo) ++ (iaW K (q 9) 6 vo)) := hD.sub [19, 9] (by decide) rfl
  refine kcg_v (D := D) (wc := ((iaW K (qo 9) 6 voo) ++ (iaW K (q 9) 6 vo))) (wc' := ((iaW K (qo 9) 6 voo) ++ (iaW K (q 9) 6 o9))) (wr := [0, 1, 2, 3, 4, 5, 6, 7, 8, 10, 11, 12, 13, 14, 15, 16, 17, 18].filterMap (fun i => (((shW K q o1 o2 o3 o4 o5 o6 vwco o7 o8 vo vsc) ++ (shW K qo vwo vko vro vpo vbo vio vwco vlo vgo voo vsco)) : va_W)[i]?)) (ws2 := ((shW K q o1 o2 o3 o4 o5 o6 vwco o7 o8 o9 vsc) ++ (shW K qo vwo vko vro vpo vbo vio vwco vlo vgo voo vsco))) (va_runSN (As := [.ref (qo 9), .ref (q 9)]) (rest := []) ⟨hx, hb, hml, hown, hts⟩ ((k_X4_copyRow l D K (qo 9) (q 9) 6 voo vo o9 ho9) H.size) ⟨va_cnB 2 hts gX3_copyFrom_X4_copyRow_n46 rfl rfl rfl (hN _ (List.mem_of_getElem? (i := 38) rfl)) (hts (.initialized RX4) (List.mem_of_getElem? (i := 13) rfl)) yd_X4_copyRow ⟨Nat.le_of_ble_eq_true rfl, Nat.le_of_ble_eq_true rfl⟩, (hts (.static yX4_copyRow) (List.mem_of_getElem? (i := 12) rfl)), trivial⟩ (kPreS hPc hDc hK hN) rfl rfl hl.1 rfl (lv_room (Nat.le_of_ble_eq_true rfl)) dX3_copyFrom_104 ⟨Nat.le_of_ble_eq_true rfl, Nat.le_of_ble_eq_true rfl⟩) hP hD hS hA [19, 9] [0, 1, 2, 3, 4, 5, 6, 7, 8, 10, 11, 12, 13, 14, 15, 16, 17, 18] [0, 1, 2, 3, 4, 5, 6, 7, 8, 19, 9, 10, 11, 12, 13, 14, 15, 16, 17, 18] rfl rfl (by decide) (by decide) rfl (by decide) (fun H locs hP hD hS => ?_)
  refine lv_aload_n hx hb dX3_copyFrom_107 rfl (lv_at hl 0 rfl) ?_
  refine lv_aload_n hx hb dX3_copyFrom_108 rfl (lv_at hl 1 rfl) ?_
  refine va_get (D := D) (ci := 3) (v := .int vsco) (C := RX3) (T := TX3) (N := 11) hx hb hts inX3_copyFrom_X3 hown hK hP 10 rfl rfl 10 (by decide) (hts (.fieldLink RX3 43 "WordScales$Shop" "sightCount" "I") (List.mem_of_getElem? (i := 11) rfl)) (fun _ h9 => h9) rfl dX3_copyFrom_109 ?_
  refine va_put (D := D) (ci := 3) (v := .int vsco) (ty := .int) (C := RX3) (T := TX3) (N := 11) hx hb hts inX3_copyFrom_X3 tyX3 tyX3_ok nmX3 hown hK hP hD hS 0 rfl rfl 10 (by decide) (hts (.fieldLink RX3 43 "WordScales$Shop" "sightCount" "I") (List.mem_of_getElem? (i := 11) rfl)) (fun _ h9 => h9) rfl (tyX3_ok 10 (by decide)) rfl rfl (Nat.le_of_ble_eq_true rfl) dX3_copyFrom_112 (fun H locs hP hD hS => ?_)
  have hP : va_P D vwCl ((shW K q o1 o2 o3 o4 o5 o6 vwco o7 o8 o9 vsco) ++ (shW K qo vwo vko vro vpo vbo vio vwco vlo vgo voo vsco)) H := hP
  have hD : va_D A ((shW K q o1 o2 o3 o4 o5 o6 vwco o7 o8 o9 vsco) ++ (shW K qo vwo vko vro vpo vbo vio vwco vlo vgo voo vsco)) := hD
  obtain rfl := Option.some.inj hf
  exact hret rfl hP hD hS dX3_copyFrom_115
def s_X3_joinRhymes_32 (vr : Nat → Int32) (p0 : Int32) (p1 : Int32) (x : Int32 × (Nat → Int32)) : Option ((Int32 × (Nat → Int32)) ⊕ (Int32 × (Nat → Int32))) := if 12 ≤ x.1 then (some (.inr (x.1, x.2))) else (bd (f_X4_isIn x.1 ((vr (p0).toNatClampNeg) ||| (vr (p1).toNatClampNeg))) (fun o9 => if o9 = 0 then (some (.inl ((x.1 + 1), x.2))) else (chk x.1 12 (some (.inl ((x.1 + 1), (upd x.2 (x.1).toNatClampNeg ((vr (p0).toNatClampNeg) ||| (vr (p1).toNatClampNeg)))))))))
def f_X3_joinRhymes (vr : Nat → Int32) (p0 : Int32) (p1 : Int32) : Option ((Nat → Int32)) := bd (f_X4_isWord p0) (fun o1 => if o1 = 0 then (some vr) else (bd (f_X4_isWord p1) (fun o3 => if o3 = 0 then (some vr) else (chk p0 12 (chk p1 12 (ob (wh (s_X3_joinRhymes_32 vr p0 p1) 5000 (0, vr)) (fun r7 => some r7.2)))))))
theorem inX3_joinRhymes_X3 : ∀ w ∈ wsX30, w ∈ wsX3_joinRhymes := fun w h => List.mem_cons_of_mem _ (List.mem_append_right _ h)
theorem yd_X3_joinRhymes : yX3_joinRhymes.cls ≠ "java/lang/invoke/MethodHandle" ∧ yX3_joinRhymes.cls ≠ "java/lang/invoke/VarHandle" ∧ (parseMethodDescriptor yX3_joinRhymes.desc).map (fun d => d.parameters.length) = some 2 := by decide +kernel
abbrev rmX3_joinRhymes : Room := { frames := 2, cells := 0, slots := 0, locals := 42 }
set_option maxHeartbeats 4000000 in
set_option maxRecDepth 100000 in
theorem k_X3_joinRhymes (l : Launch) (D : va_G) (K : Nat → ClassId) (q : Nat → Nat) (vw : Nat → Int32) (vk : Nat → Int32) (vr : Nat → Int32) (vp : Nat → Int32) (vb : Nat → Int32) (vi : Nat → Int32) (vwc : Int32) (vl : Nat → Int32) (vg : Nat → Int32) (vo : Nat → Int32) (vsc : Int32) (p0 : Int32) (p1 : Int32) (out : (Nat → Int32)) (hf : f_X3_joinRhymes vr p0 p1 = some out) : kV l D K yX3_joinRhymes wsX3_joinRhymes rmX3_joinRhymes [.ref (q 0), .int p0, .int p1] (shW K q vw vk vr vp vb vi vwc vl vg vo vsc) (shW K q vw vk out vp vb vi vwc vl vg vo vsc) := by
  refine kV.of (cc := cX3_joinRhymes) (maxL := 5) (by decide) rfl (Nat.le_of_ble_eq_true rfl) ?_
  intro p e s m args below meth c A H0 Q ls hx hb hml hown hts hK hN hA hP hD hS hl hret
  have hown : s.vm.findClass RX3 = some m.cls := hown
  have hl : lv_has ls 5 [(0, .ref (q 0)), (1, .int p0), (2, .int p1)] := hl
  generalize hH : H0 = H at hP ⊢
  have hS : va_S A H0 H [] := by rw [← hH]; exact hS
  clear hH
  unfold f_X3_joinRhymes at hf
  refine lv_iload_n hx hb dX3_joinRhymes_0 rfl (lv_at hl 1 rfl) ?_
  obtain ⟨o1, ho1, hf⟩ := bd_el hf
  refine kc0_i (D := D) (va_runSN (As := [.int p0]) (rest := []) ⟨hx, hb, hml, hown, hts⟩ ((k_X4_isWord l D K p0 o1 ho1) H.size) ⟨va_cnB 1 hts gX3_joinRhymes_X4_isWord_n50 rfl rfl rfl (hN _ (List.mem_of_getElem? (i := 33) rfl)) (hts (.initialized RX4) (List.mem_of_getElem? (i := 3) rfl)) yd_X4_isWord ⟨Nat.le_of_ble_eq_true rfl, Nat.le_of_ble_eq_true rfl⟩, (hts (.static yX4_isWord) (List.mem_of_getElem? (i := 2) rfl)), trivial⟩ (kPreS va_P_nil (va_D_nil (A := fun _ => True)) hK hN) rfl rfl hl.1 rfl (lv_room (Nat.le_of_ble_eq_true rfl)) dX3_joinRhymes_1 ⟨Nat.le_of_ble_eq_true rfl, Nat.le_of_ble_eq_true rfl⟩) hP hS hA (fun hzo1 H locs hP hS => ?_)
  refine lv_if_eq (tgt := 14) hx hb dX3_joinRhymes_4 (by decide) (fun c2 => ?_) (fun c2 => ?_)
  · rw [if_pos c2] at hf
    obtain rfl := Option.some.inj hf
    exact hret rfl hP hD hS dX3_joinRhymes_14
  · rw [if_neg c2] at hf
    refine lv_iload_n hx hb dX3_joinRhymes_7 rfl (lv_at hl 2 rfl) ?_
    obtain ⟨o3, ho3, hf⟩ := bd_el hf
    refine kc0_i (D := D) (va_runSN (As := [.int p1]) (rest := []) ⟨hx, hb, hml, hown, hts⟩ ((k_X4_isWord l D K p1 o3 ho3) H.size) ⟨va_cnB 1 hts gX3_joinRhymes_X4_isWord_n50 rfl rfl rfl (hN _ (List.mem_of_getElem? (i := 33) rfl)) (hts (.initialized RX4) (List.mem_of_getElem? (i := 3) rfl)) yd_X4_isWord ⟨Nat.le_of_ble_eq_true rfl, Nat.le_of_ble_eq_true rfl⟩, (hts (.static yX4_isWord) (List.mem_of_getElem? (i := 2) rfl)), trivial⟩ (kPreS va_P_nil (va_D_nil (A := fun _ => True)) hK hN) rfl rfl hl.1 rfl (lv_room (Nat.le_of_ble_eq_true rfl)) dX3_joinRhymes_8 ⟨Nat.le_of_ble_eq_true rfl, Nat.le_of_ble_eq_true rfl⟩) hP hS hA (fun hzo3 H locs hP hS => ?_)
    refine lv_if_ne (tgt := 15) hx hb dX3_joinRhymes_11 (by decide) (fun c4 => ?_) (fun c4 => ?_)
    · rw [if_neg c4] at hf
      refine lv_aload_n hx hb dX3_joinRhymes_15 rfl (lv_at hl 0 rfl) ?_
      refine va_get (D := D) (ci := 3) (v := .ref (q 3)) (C := RX3) (T := TX3) (N := 11) hx hb hts inX3_joinRhymes_X3 hown hK hP 0 rfl rfl 2 (by decide) (hts (.fieldLink RX3 18 "WordScales$Shop" "rhymes" "[I") (List.mem_of_getElem? (i := 1) rfl)) (fun _ h9 => h9) rfl dX3_joinRhymes_16 ?_
      refine lv_iload_n hx hb dX3_joinRhymes_19 rfl (lv_at hl 1 rfl) ?_
      obtain ⟨v5, hf⟩ := chk_el hf
      refine va_iald (D := D) (f := vr) hx hb hK hP 3 0 rfl rfl v5 dX3_joinRhymes_20 ?_
      refine lv_aload_n hx hb dX3_joinRhymes_21 rfl (lv_at hl 0 rfl) ?_
      refine va_get (D := D) (ci := 3) (v := .ref (q 3)) (C := RX3) (T := TX3) (N := 11) hx hb hts inX3_joinRhymes_X3 hown hK hP 0 rfl rfl 2 (by decide) (hts (.fieldLink RX3 18 "WordScales$Shop" "rhymes" "[I") (List.mem_of_getElem? (i := 1) rfl)) (fun _ h9 => h9) rfl dX3_joinRhymes_22 ?_
      refine lv_iload_n hx hb dX3_joinRhymes_25 rfl (lv_at hl 2 rfl) ?_
      obtain ⟨v6, hf⟩ := chk_el hf
      refine va_iald (D := D) (f := vr) hx hb hK hP 3 0 rfl rfl v6 dX3_joinRhymes_26 ?_
      refine lv_ior hx hb dX3_joinRhymes_27 ?_
      refine lv_istore_n (lv' := [(3, .int ((vr (p0).toNatClampNeg) ||| (vr (p1).toNatClampNeg))), (0, .ref (q 0)), (1, .int p0), (2, .int p1)]) hx hb dX3_joinRhymes_28 rfl hl (by decide) rfl (fun ls hl => ?_)
      refine lv_iconst (v := 0) hx hb dX3_joinRhymes_29 (by decide) ?_
      refine lv_istore (lv' := [(4, .int 0), (3, .int ((vr (p0).toNatClampNeg) ||| (vr (p1).toNatClampNeg))), (0, .ref (q 0)), (1, .int p0), (2, .int p1)]) hx hb dX3_joinRhymes_30 hl (by decide) rfl (fun ls hl => ?_)
      obtain ⟨r7, hr7, hf⟩ := ob_el hf
      have post32 : ∀ (e32_l4 : Int32) (e32_r : Nat → Int32) (H : Heap) (locs : List Loc) (ls : Array Slot), (some e32_r) = some out → va_P D vwCl (shW K q vw vk e32_r vp vb vi vwc vl vg vo vsc) H → va_D A (shW K q vw vk e32_r vp vb vi vwc vl vg vo vsc) → va_S A H0 H locs → lv_has ls 5 [(4, .int e32_l4), (3, .int ((vr (p0).toNatClampNeg) ||| (vr (p1).toNatClampNeg))), (0, .ref (q 0)), (1, .int p0), (2, .int p1)] → W p l e rmX3_joinRhymes s m args below meth c H locs 0 0 Q (F0 m 62 ls []) := by
        intro e32_l4 e32_r H locs ls hf hP hD hS hl
        obtain rfl := Option.some.inj hf
        exact hret rfl hP hD hS dX3_joinRhymes_62
      have lp32 : ∀ (fu : Nat) (x32_l4 : Int32) (x32_r : Nat → Int32) (H : Heap) (locs : List Loc) (ls : Array Slot), wh (s_X3_joinRhymes_32 vr p0 p1) fu (x32_l4, x32_r) = some r7 → va_P D vwCl (shW K q vw vk x32_r vp vb vi vwc vl vg vo vsc) H → va_D A (shW K q vw vk x32_r vp vb vi vwc vl vg vo vsc) → va_S A H0 H locs → lv_has ls 5 [(4, .int x32_l4), (3, .int ((vr (p0).toNatClampNeg) ||| (vr (p1).toNatClampNeg))), (0, .ref (q 0)), (1, .int p0), (2, .int p1)] → W p l e rmX3_joinRhymes s m args below meth c H locs 0 0 Q (F0 m 32 ls []) := by
        intro fu
        induction fu with
        | zero => intro x32_l4 x32_r H locs ls hw32; cases hw32
        | succ fu ih32 =>
          intro x32_l4 x32_r H locs ls hw32 hP hD hS hl
          obtain ⟨o32_, hs32, hw32⟩ := wh_el hw32
          unfold s_X3_joinRhymes_32 at hs32
          dsimp only at hs32
          refine lv_iload hx hb dX3_joinRhymes_32 (lv_at hl 0 rfl) ?_
          refine lv_bipush (v := 12) hx hb dX3_joinRhymes_34 (by decide) ?_
          refine lv_icmp_ge (tgt := 62) hx hb dX3_joinRhymes_36 (by decide) (fun c8 => ?_) (fun c8 => ?_)
          · rw [if_pos c8] at hs32
            obtain rfl := Option.some.inj hs32
            have e9 := Option.some.inj hw32
            rw [← e9] at hf
            exact post32 _ _ _ _ _ hf hP hD hS (lv_sub hl [0, 1, 2, 3, 4] rfl)
          · rw [if_neg c8] at hs32
            refine lv_iload hx hb dX3_joinRhymes_39 (lv_at hl 0 rfl) ?_
            refine lv_iload_n hx hb dX3_joinRhymes_41 rfl (lv_at hl 1 rfl) ?_
            obtain ⟨o9, ho9, hs32⟩ := bd_el hs32
            refine kc0_i (D := D) (va_runSN (As := [.int x32_l4, .int ((vr (p0).toNatClampNeg) ||| (vr (p1).toNatClampNeg))]) (rest := []) ⟨hx, hb, hml, hown, hts⟩ ((k_X4_isIn l D K x32_l4 ((vr (p0).toNatClampNeg) ||| (vr (p1).toNatClampNeg)) o9 ho9) H.size) ⟨va_cnB 2 hts gX3_joinRhymes_X4_isIn_n54 rfl rfl rfl (hN _ (List.mem_of_getElem? (i := 34) rfl)) (hts (.initialized RX4) (List.mem_of_getElem? (i := 3) rfl)) yd_X4_isIn ⟨Nat.le_of_ble_eq_true rfl, Nat.le_of_ble_eq_true rfl⟩, (hts (.static yX4_isIn) (List.mem_of_getElem? (i := 8) rfl)), trivial⟩ (kPreS va_P_nil (va_D_nil (A := fun _ => True)) hK hN) rfl rfl hl.1 rfl (lv_room (Nat.le_of_ble_eq_true rfl)) dX3_joinRhymes_42 ⟨Nat.le_of_ble_eq_true rfl, Nat.le_of_ble_eq_true rfl⟩) hP hS hA (fun hzo9 H locs hP hS => ?_)
            refine lv_if_eq (tgt := 56) hx hb dX3_joinRhymes_45 (by decide) (fun c10 => ?_) (fun c10 => ?_)
            · rw [if_pos c10] at hs32
              refine lv_iinc (v := (x32_l4 + 1)) (lv' := [(4, .int (x32_l4 + 1)), (3, .int ((vr (p0).toNatClampNeg) ||| (vr (p1).toNatClampNeg))), (0, .ref (q 0)), (1, .int p0), (2, .int p1)]) hx hb dX3_joinRhymes_56 hl (k := 0) rfl (by rfl) (by decide) rfl (fun ls hl => ?_)
              refine lv_goto (tgt := 32) hx hb dX3_joinRhymes_59 (by decide) ?_
              obtain rfl := Option.some.inj hs32
              exact ih32 _ _ _ _ _ hw32 hP hD hS (lv_sub hl [0, 1, 2, 3, 4] rfl)
            · rw [if_neg c10] at hs32
              refine lv_aload_n hx hb dX3_joinRhymes_48 rfl (lv_at hl 2 rfl) ?_
              refine va_get (D := D) (ci := 3) (v := .ref (q 3)) (C := RX3) (T := TX3) (N := 11) hx hb hts inX3_joinRhymes_X3 hown hK hP 0 rfl rfl 2 (by decide) (hts (.fieldLink RX3 18 "WordScales$Shop" "rhymes" "[I") (List.mem_of_getElem? (i := 1) rfl)) (fun _ h9 => h9) rfl dX3_joinRhymes_49 ?_
              refine lv_iload hx hb dX3_joinRhymes_52 (lv_at hl 0 rfl) ?_
              refine lv_iload_n hx hb dX3_joinRhymes_54 rfl (lv_at hl 1 rfl) ?_
              obtain ⟨v11, hs32⟩ := chk_el hs32
              refine va_iast (D := D) (f := x32_r) hx hb hK hP hD hS 3 0 rfl rfl v11 dX3_joinRhymes_55 (fun H locs hP hD hS => ?_)
              have hP : va_P D vwCl (shW K q vw vk (upd x32_r (x32_l4).toNatClampNeg ((vr (p0).toNatClampNeg) ||| (vr (p1).toNatClampNeg))) vp vb vi vwc vl vg vo vsc) H := hP
              have hD : va_D A (shW K q vw vk (upd x32_r (x32_l4).toNatClampNeg ((vr (p0).toNatClampNeg) ||| (vr (p1).toNatClampNeg))) vp vb vi vwc vl vg vo vsc) := hD
              refine lv_iinc (v := (x32_l4 + 1)) (lv' := [(4, .int (x32_l4 + 1)), (3, .int ((vr (p0).toNatClampNeg) ||| (vr (p1).toNatClampNeg))), (0, .ref (q 0)), (1, .int p0), (2, .int p1)]) hx hb dX3_joinRhymes_56 hl (k := 0) rfl (by rfl) (by decide) rfl (fun ls hl => ?_)
              refine lv_goto (tgt := 32) hx hb dX3_joinRhymes_59 (by decide) ?_
              obtain rfl := Option.some.inj hs32
              exact ih32 _ _ _ _ _ hw32 hP hD hS (lv_sub hl [0, 1, 2, 3, 4] rfl)
      exact lp32 5000 _ _ _ _ _ hr7 hP hD hS (lv_sub hl [0, 1, 2, 3, 4] rfl)
    · rw [if_pos c4] at hf
      obtain rfl := Option.some.inj hf
      exact hret rfl hP hD hS dX3_joinRhymes_14
def s_X3_leaveRhymes_14 (p0 : Int32) (x : Int32 × (Nat → Int32)) : Option ((Int32 × (Nat → Int32)) ⊕ (Int32 × (Nat → Int32))) := if 12 ≤ x.1 then (some (.inr (x.1, x.2))) else (chk x.1 12 (some (.inl ((x.1 + 1), (upd x.2 (x.1).toNatClampNeg ((x.2 (x.1).toNatClampNeg) &&& ((1 <<< (p0 &&& 31)) ^^^ (-1))))))))
def f_X3_leaveRhymes (vr : Nat → Int32) (p0 : Int32) : Option ((Nat → Int32)) := bd (f_X4_isWord p0) (fun o1 => if o1 = 0 then (some vr) else (ob (wh (s_X3_leaveRhymes_14 p0) 5000 (0, vr)) (fun r3 => chk p0 12 (some (upd r3.2 (p0).toNatClampNeg (1 <<< (p0 &&& 31)))))))
theorem inX3_leaveRhymes_X3 : ∀ w ∈ wsX30, w ∈ wsX3_leaveRhymes := fun w h => List.mem_cons_of_mem _ (List.mem_append_right _ h)
theorem yd_X3_leaveRhymes : yX3_leaveRhymes.cls ≠ "java/lang/invoke/MethodHandle" ∧ yX3_leaveRhymes.cls ≠ "java/lang/invoke/VarHandle" ∧ (parseMethodDescriptor yX3_leaveRhymes.desc).map (fun d => d.parameters.length) = some 1 := by decide +kernel
abbrev rmX3_leaveRhymes : Room := { frames := 2, cells := 0, slots := 0, locals := 42 }
set_option maxHeartbeats 4000000 in
set_option maxRecDepth 100000 in
theorem k_X3_leaveRhymes (l : Launch) (D : va_G) (K : Nat → ClassId) (q : Nat → Nat) (vw : Nat → Int32) (vk : Nat → Int32) (vr : Nat → Int32) (vp : Nat → Int32) (vb : Nat → Int32) (vi : Nat → Int32) (vwc : Int32) (vl : Nat → Int32) (vg : Nat → Int32) (vo : Nat → Int32) (vsc : Int32) (p0 : Int32) (out : (Nat → Int32)) (hf : f_X3_leaveRhymes vr p0 = some out) : kV l D K yX3_leaveRhymes wsX3_leaveRhymes rmX3_leaveRhymes [.ref (q 0), .int p0] (shW K q vw vk vr vp vb vi vwc vl vg vo vsc) (shW K q vw vk out vp vb vi vwc vl vg vo vsc) := by
  refine kV.of (cc := cX3_leaveRhymes) (maxL := 4) (by decide) rfl (Nat.le_of_ble_eq_true rfl) ?_
  intro p e s m args below meth c A H0 Q ls hx hb hml hown hts hK hN hA hP hD hS hl hret
  have hown : s.vm.findClass RX3 = some m.cls := hown
  have hl : lv_has ls 4 [(0, .ref (q 0)), (1, .int p0)] := hl
  generalize hH : H0 = H at hP ⊢
  have hS : va_S A H0 H [] := by rw [← hH]; exact hS
  clear hH
  unfold f_X3_leaveRhymes at hf
  refine lv_iload_n hx hb dX3_leaveRhymes_0 rfl (lv_at hl 1 rfl) ?_
  obtain ⟨o1, ho1, hf⟩ := bd_el hf
  refine kc0_i (D := D) (va_runSN (As := [.int p0]) (rest := []) ⟨hx, hb, hml, hown, hts⟩ ((k_X4_isWord l D K p0 o1 ho1) H.size) ⟨va_cnB 1 hts gX3_leaveRhymes_X4_isWord_n50 rfl rfl rfl (hN _ (List.mem_of_getElem? (i := 33) rfl)) (hts (.initialized RX4) (List.mem_of_getElem? (i := 3) rfl)) yd_X4_isWord ⟨Nat.le_of_ble_eq_true rfl, Nat.le_of_ble_eq_true rfl⟩, (hts (.static yX4_isWord) (List.mem_of_getElem? (i := 2) rfl)), trivial⟩ (kPreS va_P_nil (va_D_nil (A := fun _ => True)) hK hN) rfl rfl hl.1 rfl (lv_room (Nat.le_of_ble_eq_true rfl)) dX3_leaveRhymes_1 ⟨Nat.le_of_ble_eq_true rfl, Nat.le_of_ble_eq_true rfl⟩) hP hS hA (fun hzo1 H locs hP hS => ?_)
  refine lv_if_ne (tgt := 8) hx hb dX3_leaveRhymes_4 (by decide) (fun c2 => ?_) (fun c2 => ?_)
  · rw [if_neg c2] at hf
    refine lv_iconst (v := 1) hx hb dX3_leaveRhymes_8 (by decide) ?_
    refine lv_iload_n hx hb dX3_leaveRhymes_9 rfl (lv_at hl 1 rfl) ?_
    refine lv_ishl hx hb dX3_leaveRhymes_10 ?_
    refine lv_istore_n (lv' := [(2, .int (1 <<< (p0 &&& 31))), (0, .ref (q 0)), (1, .int p0)]) hx hb dX3_leaveRhymes_11 rfl hl (by decide) rfl (fun ls hl => ?_)
    refine lv_iconst (v := 0) hx hb dX3_leaveRhymes_12 (by decide) ?_
    refine lv_istore_n (lv' := [(3, .int 0), (2, .int (1 <<< (p0 &&& 31))), (0, .ref (q 0)), (1, .int p0)]) hx hb dX3_leaveRhymes_13 rfl hl (by decide) rfl (fun ls hl => ?_)
    obtain ⟨r3, hr3, hf⟩ := ob_el hf
    have post14 : ∀ (e14_l3 : Int32) (e14_r : Nat → Int32) (H : Heap) (locs : List Loc) (ls : Array Slot), (chk p0 12 (some (upd e14_r (p0).toNatClampNeg (1 <<< (p0 &&& 31))))) = some out → va_P D vwCl (shW K q vw vk e14_r vp vb vi vwc vl vg vo vsc) H → va_D A (shW K q vw vk e14_r vp vb vi vwc vl vg vo vsc) → va_S A H0 H locs → lv_has ls 4 [(3, .int e14_l3), (2, .int (1 <<< (p0 &&& 31))), (0, .ref (q 0)), (1, .int p0)] → W p l e rmX3_leaveRhymes s m args below meth c H locs 0 0 Q (F0 m 38 ls []) := by
      intro e14_l3 e14_r H locs ls hf hP hD hS hl
      refine lv_aload_n hx hb dX3_leaveRhymes_38 rfl (lv_at hl 2 rfl) ?_
      refine va_get (D := D) (ci := 3) (v := .ref (q 3)) (C := RX3) (T := TX3) (N := 11) hx hb hts inX3_leaveRhymes_X3 hown hK hP 0 rfl rfl 2 (by decide) (hts (.fieldLink RX3 18 "WordScales$Shop" "rhymes" "[I") (List.mem_of_getElem? (i := 1) rfl)) (fun _ h9 => h9) rfl dX3_leaveRhymes_39 ?_
      refine lv_iload_n hx hb dX3_leaveRhymes_42 rfl (lv_at hl 3 rfl) ?_
      refine lv_iload_n hx hb dX3_leaveRhymes_43 rfl (lv_at hl 1 rfl) ?_
      obtain ⟨v4, hf⟩ := chk_el hf
      refine va_iast (D := D) (f := e14_r) hx hb hK hP hD hS 3 0 rfl rfl v4 dX3_leaveRhymes_44 (fun H locs hP hD hS => ?_)
      have hP : va_P D vwCl (shW K q vw vk (upd e14_r (p0).toNatClampNeg (1 <<< (p0 &&& 31))) vp vb vi vwc vl vg vo vsc) H := hP
      have hD : va_D A (shW K q vw vk (upd e14_r (p0).toNatClampNeg (1 <<< (p0 &&& 31))) vp vb vi vwc vl vg vo vsc) := hD
      obtain rfl := Option.some.inj hf
      exact hret rfl hP hD hS dX3_leaveRhymes_45
    have lp14 : ∀ (fu : Nat) (x14_l3 : Int32) (x14_r : Nat → Int32) (H : Heap) (locs : List Loc) (ls : Array Slot), wh (s_X3_leaveRhymes_14 p0) fu (x14_l3, x14_r) = some r3 → va_P D vwCl (shW K q vw vk x14_r vp vb vi vwc vl vg vo vsc) H → va_D A (shW K q vw vk x14_r vp vb vi vwc vl vg vo vsc) → va_S A H0 H locs → lv_has ls 4 [(3, .int x14_l3), (2, .int (1 <<< (p0 &&& 31))), (0, .ref (q 0)), (1, .int p0)] → W p l e rmX3_leaveRhymes s m args below meth c H locs 0 0 Q (F0 m 14 ls []) := by
      intro fu
      induction fu with
      | zero => intro x14_l3 x14_r H locs ls hw14; cases hw14
      | succ fu ih14 =>
        intro x14_l3 x14_r H locs ls hw14 hP hD hS hl
        obtain ⟨o14_, hs14, hw14⟩ := wh_el hw14
        unfold s_X3_leaveRhymes_14 at hs14
        dsimp only at hs14
        refine lv_iload_n hx hb dX3_leaveRhymes_14 rfl (lv_at hl 0 rfl) ?_
        refine lv_bipush (v := 12) hx hb dX3_leaveRhymes_15 (by decide) ?_
        refine lv_icmp_ge (tgt := 38) hx hb dX3_leaveRhymes_17 (by decide) (fun c5 => ?_) (fun c5 => ?_)
        · rw [if_pos c5] at hs14
          obtain rfl := Option.some.inj hs14
          have e9 := Option.some.inj hw14
          rw [← e9] at hf
          exact post14 _ _ _ _ _ hf hP hD hS (lv_sub hl [0, 1, 2, 3] rfl)
        · rw [if_neg c5] at hs14
          refine lv_aload_n hx hb dX3_leaveRhymes_20 rfl (lv_at hl 2 rfl) ?_
          refine va_get (D := D) (ci := 3) (v := .ref (q 3)) (C := RX3) (T := TX3) (N := 11) hx hb hts inX3_leaveRhymes_X3 hown hK hP 0 rfl rfl 2 (by decide) (hts (.fieldLink RX3 18 "WordScales$Shop" "rhymes" "[I") (List.mem_of_getElem? (i := 1) rfl)) (fun _ h9 => h9) rfl dX3_leaveRhymes_21 ?_
          refine lv_iload_n hx hb dX3_leaveRhymes_24 rfl (lv_at hl 0 rfl) ?_
          refine lv_dup2_11 hx hb dX3_leaveRhymes_25 rfl rfl ?_
          obtain ⟨v6, hs14⟩ := chk_el hs14
          refine va_iald (D := D) (f := x14_r) hx hb hK hP 3 0 rfl rfl v6 dX3_leaveRhymes_26 ?_
          refine lv_iload_n hx hb dX3_leaveRhymes_27 rfl (lv_at hl 1 rfl) ?_
          refine lv_iconst (v := (-1)) hx hb dX3_leaveRhymes_28 (by decide) ?_
          refine lv_ixor hx hb dX3_leaveRhymes_29 ?_
          refine lv_iand hx hb dX3_leaveRhymes_30 ?_
          refine va_iast (D := D) (f := x14_r) hx hb hK hP hD hS 3 0 rfl rfl v6 dX3_leaveRhymes_31 (fun H locs hP hD hS => ?_)
          have hP : va_P D vwCl (shW K q vw vk (upd x14_r (x14_l3).toNatClampNeg ((x14_r (x14_l3).toNatClampNeg) &&& ((1 <<< (p0 &&& 31)) ^^^ (-1)))) vp vb vi vwc vl vg vo vsc) H := hP
          have hD : va_D A (shW K q vw vk (upd x14_r (x14_l3).toNatClampNeg ((x14_r (x14_l3).toNatClampNeg) &&& ((1 <<< (p0 &&& 31)) ^^^ (-1)))) vp vb vi vwc vl vg vo vsc) := hD
          refine lv_iinc (v := (x14_l3 + 1)) (lv' := [(3, .int (x14_l3 + 1)), (2, .int (1 <<< (p0 &&& 31))), (0, .ref (q 0)), (1, .int p0)]) hx hb dX3_leaveRhymes_32 hl (k := 0) rfl (by rfl) (by decide) rfl (fun ls hl => ?_)
          refine lv_goto (tgt := 14) hx hb dX3_leaveRhymes_35 (by decide) ?_
          obtain rfl := Option.some.inj hs14
          exact ih14 _ _ _ _ _ hw14 hP hD hS (lv_sub hl [0, 1, 2, 3] rfl)
    exact lp14 5000 _ _ _ _ _ hr3 hP hD hS (lv_sub hl [0, 1, 2, 3] rfl)
  · rw [if_pos c2] at hf
    obtain rfl := Option.some.inj hf
    exact hret rfl hP hD hS dX3_leaveRhymes_7
def s_X3_heaviestOf_4 (vw : Nat → Int32) (p0 : Int32) (x : Int32 × Int32) : Option ((Int32 × Int32) ⊕ (Int32 × Int32)) := if 12 ≤ x.2 then (some (.inr (x.1, x.2))) else (bd (f_X4_isIn x.2 p0) (fun o3 => if o3 = 0 then (some (.inl (x.1, (x.2 + 1)))) else (chk x.2 12 (some (.inl ((if x.1 < (vw (x.2).toNatClampNeg) then (vw (x.2).toNatClampNeg) else x.1), (x.2 + 1)))))))
def f_X3_heaviestOf (vw : Nat → Int32) (p0 : Int32) : Option (Int32) := ob (wh (s_X3_heaviestOf_4 vw p0) 5000 (0, 0)) (fun r1 => some r1.1)
theorem inX3_heaviestOf_X3 : ∀ w ∈ wsX30, w ∈ wsX3_heaviestOf := fun w h => List.mem_cons_of_mem _ (List.mem_append_right _ h)
theorem yd_X3_heaviestOf : yX3_heaviestOf.cls ≠ "java/lang/invoke/MethodHandle" ∧ yX3_heaviestOf.cls ≠ "java/lang/invoke/VarHandle" ∧ (parseMethodDescriptor yX3_heaviestOf.desc).map (fun d => d.parameters.length) = some 1 := by decide +kernel
abbrev rmX3_heaviestOf : Room := { frames := 1, cells := 0, slots := 0, locals := 25 }
set_option maxHeartbeats 4000000 in
set_option maxRecDepth 100000 in
theorem k_X3_heaviestOf (l : Launch) (D : va_G) (K : Nat → ClassId) (q : Nat → Nat) (vw : Nat → Int32) (vk : Nat → Int32) (vr : Nat → Int32) (vp : Nat → Int32) (vb : Nat → Int32) (vi : Nat → Int32) (vwc : Int32) (vl : Nat → Int32) (vg : Nat → Int32) (vo : Nat → Int32) (vsc : Int32) (p0 : Int32) (out : Int32) (hf : f_X3_heaviestOf vw p0 = some out) : kI l D K .int yX3_heaviestOf wsX3_heaviestOf rmX3_heaviestOf [.ref (q 0), .int p0] (shW K q vw vk vr vp vb vi vwc vl vg vo vsc) out (shW K q vw vk vr vp vb vi vwc vl vg vo vsc) := by
  refine kI.of (cc := cX3_heaviestOf) (maxL := 4) (by decide) rfl (Nat.le_of_ble_eq_true rfl) ?_
  intro p e s m args below meth c A H0 Q ls hx hb hml hown hts hK hN hA hP hD hS hl hret
  have hown : s.vm.findClass RX3 = some m.cls := hown
  have hl : lv_has ls 4 [(0, .ref (q 0)), (1, .int p0)] := hl
  generalize hH : H0 = H at hP ⊢
  have hS : va_S A H0 H [] := by rw [← hH]; exact hS
  clear hH
  unfold f_X3_heaviestOf at hf
  refine lv_iconst (v := 0) hx hb dX3_heaviestOf_0 (by decide) ?_
  refine lv_istore_n (lv' := [(2, .int 0), (0, .ref (q 0)), (1, .int p0)]) hx hb dX3_heaviestOf_1 rfl hl (by decide) rfl (fun ls hl => ?_)
  refine lv_iconst (v := 0) hx hb dX3_heaviestOf_2 (by decide) ?_
  refine lv_istore_n (lv' := [(3, .int 0), (2, .int 0), (0, .ref (q 0)), (1, .int p0)]) hx hb dX3_heaviestOf_3 rfl hl (by decide) rfl (fun ls hl => ?_)
  obtain ⟨r1, hr1, hf⟩ := ob_el hf
  have post4 : ∀ (e4_l2 : Int32) (e4_l3 : Int32) (H : Heap) (locs : List Loc) (ls : Array Slot), (some e4_l2) = some out → va_P D vwCl (shW K q vw vk vr vp vb vi vwc vl vg vo vsc) H → va_D A (shW K q vw vk vr vp vb vi vwc vl vg vo vsc) → va_S A H0 H locs → lv_has ls 4 [(3, .int e4_l3), (2, .int e4_l2), (0, .ref (q 0)), (1, .int p0)] → W p l e rmX3_heaviestOf s m args below meth c H locs 0 0 Q (F0 m 35 ls []) := by
    intro e4_l2 e4_l3 H locs ls hf hP hD hS hl
    refine lv_iload_n hx hb dX3_heaviestOf_35 rfl (lv_at hl 1 rfl) ?_
    obtain rfl := Option.some.inj hf
    exact hret rfl rfl rfl hP hD hS dX3_heaviestOf_36
  have lp4 : ∀ (fu : Nat) (x4_l2 : Int32) (x4_l3 : Int32) (H : Heap) (locs : List Loc) (ls : Array Slot), wh (s_X3_heaviestOf_4 vw p0) fu (x4_l2, x4_l3) = some r1 → va_P D vwCl (shW K q vw vk vr vp vb vi vwc vl vg vo vsc) H → va_D A (shW K q vw vk vr vp vb vi vwc vl vg vo vsc) → va_S A H0 H locs → lv_has ls 4 [(3, .int x4_l3), (2, .int x4_l2), (0, .ref (q 0)), (1, .int p0)] → W p l e rmX3_heaviestOf s m args below meth c H locs 0 0 Q (F0 m 4 ls []) := by
    intro fu
    induction fu with
    | zero => intro x4_l2 x4_l3 H locs ls hw4; cases hw4
    | succ fu ih4 =>
      intro x4_l2 x4_l3 H locs ls hw4 hP hD hS hl
      obtain ⟨o4_, hs4, hw4⟩ := wh_el hw4
      unfold s_X3_heaviestOf_4 at hs4
      dsimp only at hs4
      refine lv_iload_n hx hb dX3_heaviestOf_4 rfl (lv_at hl 0 rfl) ?_
      refine lv_bipush (v := 12) hx hb dX3_heaviestOf_5 (by decide) ?_
      refine lv_icmp_ge (tgt := 35) hx hb dX3_heaviestOf_7 (by decide) (fun c2 => ?_) (fun c2 => ?_)
      · rw [if_pos c2] at hs4
        obtain rfl := Option.some.inj hs4
        have e9 := Option.some.inj hw4
        rw [← e9] at hf
        exact post4 _ _ _ _ _ hf hP hD hS (lv_sub hl [0, 1, 2, 3] rfl)
      · rw [if_neg c2] at hs4
        refine lv_iload_n hx hb dX3_heaviestOf_10 rfl (lv_at hl 0 rfl) ?_
        refine lv_iload_n hx hb dX3_heaviestOf_11 rfl (lv_at hl 3 rfl) ?_
        obtain ⟨o3, ho3, hs4⟩ := bd_el hs4
        refine kc0_i (D := D) (va_runSN (As := [.int x4_l3, .int p0]) (rest := []) ⟨hx, hb, hml, hown, hts⟩ ((k_X4_isIn l D K x4_l3 p0 o3 ho3) H.size) ⟨va_cnB 2 hts gX3_heaviestOf_X4_isIn_n54 rfl rfl rfl (hN _ (List.mem_of_getElem? (i := 34) rfl)) (hts (.initialized RX4) (List.mem_of_getElem? (i := 7) rfl)) yd_X4_isIn ⟨Nat.le_of_ble_eq_true rfl, Nat.le_of_ble_eq_true rfl⟩, (hts (.static yX4_isIn) (List.mem_of_getElem? (i := 6) rfl)), trivial⟩ (kPreS va_P_nil (va_D_nil (A := fun _ => True)) hK hN) rfl rfl hl.1 rfl (lv_room (Nat.le_of_ble_eq_true rfl)) dX3_heaviestOf_12 ⟨Nat.le_of_ble_eq_true rfl, Nat.le_of_ble_eq_true rfl⟩) hP hS hA (fun hzo3 H locs hP hS => ?_)
        refine lv_if_eq (tgt := 29) hx hb dX3_heaviestOf_15 (by decide) (fun c4 => ?_) (fun c4 => ?_)
        · rw [if_pos c4] at hs4
          refine lv_iinc (v := (x4_l3 + 1)) (lv' := [(3, .int (x4_l3 + 1)), (2, .int x4_l2), (0, .ref (q 0)), (1, .int p0)]) hx hb dX3_heaviestOf_29 hl (k := 0) rfl (by rfl) (by decide) rfl (fun ls hl => ?_)
          refine lv_goto (tgt := 4) hx hb dX3_heaviestOf_32 (by decide) ?_
          obtain rfl := Option.some.inj hs4
          exact ih4 _ _ _ _ _ hw4 hP hD hS (lv_sub hl [0, 1, 2, 3] rfl)
        · rw [if_neg c4] at hs4
          refine lv_iload_n hx hb dX3_heaviestOf_18 rfl (lv_at hl 1 rfl) ?_
          refine lv_aload_n hx hb dX3_heaviestOf_19 rfl (lv_at hl 2 rfl) ?_
          refine va_get (D := D) (ci := 3) (v := .ref (q 1)) (C := RX3) (T := TX3) (N := 11) hx hb hts inX3_heaviestOf_X3 hown hK hP 0 rfl rfl 0 (by decide) (hts (.fieldLink RX3 9 "WordScales$Shop" "weights" "[I") (List.mem_of_getElem? (i := 1) rfl)) (fun _ h9 => h9) rfl dX3_heaviestOf_20 ?_
          refine lv_iload_n hx hb dX3_heaviestOf_23 rfl (lv_at hl 0 rfl) ?_
          obtain ⟨v5, hs4⟩ := chk_el hs4
          refine va_iald (D := D) (f := vw) hx hb hK hP 1 0 rfl rfl v5 dX3_heaviestOf_24 ?_
          refine va_mmax hx hb (hml.trans hl.1.symm) hown (hts (.methodLink RX3 62 Lib.Math.max.name) (List.mem_of_getElem? (i := 2) rfl)) (hts (.static Lib.Math.max.name) (List.mem_of_getElem? (i := 3) rfl)) (hts (.initialized "java/lang/Math") (List.mem_of_getElem? (i := 4) rfl)) (hts (.code Lib.Math.max.name Lib.Math.max.code 2 (some .int)) (List.mem_of_getElem? (i := 5) rfl)) (Nat.le_of_ble_eq_true rfl) (Nat.le_of_ble_eq_true rfl) (Nat.le_of_ble_eq_true rfl) (Nat.le_of_ble_eq_true rfl) dX3_heaviestOf_25 ?_
          refine lv_istore_n (lv' := [(2, .int (if x4_l2 < (vw (x4_l3).toNatClampNeg) then (vw (x4_l3).toNatClampNeg) else x4_l2)), (3, .int x4_l3), (0, .ref (q 0)), (1, .int p0)]) hx hb dX3_heaviestOf_28 rfl hl (by decide) rfl (fun ls hl => ?_)
          refine lv_iinc (v := (x4_l3 + 1)) (lv' := [(3, .int (x4_l3 + 1)), (2, .int (if x4_l2 < (vw (x4_l3).toNatClampNeg) then (vw (x4_l3).toNatClampNeg) else x4_l2)), (0, .ref (q 0)), (1, .int p0)]) hx hb dX3_heaviestOf_29 hl (k := 1) rfl (by rfl) (by decide) rfl (fun ls hl => ?_)
          refine lv_goto (tgt := 4) hx hb dX3_heaviestOf_32 (by decide) ?_
          obtain rfl := Option.some.inj hs4
          exact ih4 _ _ _ _ _ hw4 hP hD hS (lv_sub hl [0, 1, 2, 3] rfl)
  exact lp4 5000 _ _ _ _ _ hr1 hP hD hS (lv_sub hl [0, 1, 2, 3] rfl)
def s_X3_weigh_7 (vw : Nat → Int32) (vr : Nat → Int32) (x : Int32 × Int32 × Int32) : Option ((Int32 × Int32 × Int32) ⊕ (Int32 × Int32 × Int32)) := if 12 ≤ x.2.2 then (some (.inr (x.1, x.2.1, x.2.2))) else (bd (f_X4_isIn x.2.2 x.2.1) (fun o3 => if o3 = 0 then (some (.inl (x.1, x.2.1, (x.2.2 + 1)))) else (chk x.2.2 12 (ob (f_X3_heaviestOf vw (x.2.1 &&& (vr (x.2.2).toNatClampNeg))) (fun o6 => some (.inl ((x.1 + o6), (x.2.1 &&& ((vr (x.2.2).toNatClampNeg) ^^^ (-1))), (x.2.2 + 1))))))))
def f_X3_weigh (vw : Nat → Int32) (vr : Nat → Int32) (p0 : Int32) : Option (Int32) := ob (wh (s_X3_weigh_7 vw vr) 5000 (0, p0, 0)) (fun r1 => some r1.1)
theorem inX3_weigh_X3 : ∀ w ∈ wsX30, w ∈ wsX3_weigh := fun w h => List.mem_cons_of_mem _ (List.mem_append_right _ h)
theorem yd_X3_weigh : yX3_weigh.cls ≠ "java/lang/invoke/MethodHandle" ∧ yX3_weigh.cls ≠ "java/lang/invoke/VarHandle" ∧ (parseMethodDescriptor yX3_weigh.desc).map (fun d => d.parameters.length) = some 1 := by decide +kernel
abbrev rmX3_weigh : Room := { frames := 2, cells := 0, slots := 0, locals := 48 }
set_option maxHeartbeats 4000000 in
set_option maxRecDepth 100000 in
theorem k_X3_weigh (l : Launch) (D : va_G) (K : Nat → ClassId) (q : Nat → Nat) (vw : Nat → Int32) (vk : Nat → Int32) (vr : Nat → Int32) (vp : Nat → Int32) (vb : Nat → Int32) (vi : Nat → Int32) (vwc : Int32) (vl : Nat → Int32) (vg : Nat → Int32) (vo : Nat → Int32) (vsc : Int32) (p0 : Int32) (out : Int32) (hf : f_X3_weigh vw vr p0 = some out) : kI l D K .int yX3_weigh wsX3_weigh rmX3_weigh [.ref (q 0), .int p0] (shW K q vw vk vr vp vb vi vwc vl vg vo vsc) out (shW K q vw vk vr vp vb vi vwc vl vg vo vsc) := by
  refine kI.of (cc := cX3_weigh) (maxL := 5) (by decide) rfl (Nat.le_of_ble_eq_true rfl) ?_
  intro p e s m args below meth c A H0 Q ls hx hb hml hown hts hK hN hA hP hD hS hl hret
  have hown : s.vm.findClass RX3 = some m.cls := hown
  have hl : lv_has ls 5 [(0, .ref (q 0)), (1, .int p0)] := hl
  generalize hH : H0 = H at hP ⊢
  have hS : va_S A H0 H [] := by rw [← hH]; exact hS
  clear hH
  unfold f_X3_weigh at hf
  refine lv_iconst (v := 0) hx hb dX3_weigh_0 (by decide) ?_
  refine lv_istore_n (lv' := [(2, .int 0), (0, .ref (q 0)), (1, .int p0)]) hx hb dX3_weigh_1 rfl hl (by decide) rfl (fun ls hl => ?_)
  refine lv_iload_n hx hb dX3_weigh_2 rfl (lv_at hl 2 rfl) ?_
  refine lv_istore_n (lv' := [(3, .int p0), (2, .int 0), (0, .ref (q 0)), (1, .int p0)]) hx hb dX3_weigh_3 rfl hl (by decide) rfl (fun ls hl => ?_)
  refine lv_iconst (v := 0) hx hb dX3_weigh_4 (by decide) ?_
  refine lv_istore (lv' := [(4, .int 0), (3, .int p0), (2, .int 0), (0, .ref (q 0)), (1, .int p0)]) hx hb dX3_weigh_5 hl (by decide) rfl (fun ls hl => ?_)
  obtain ⟨r1, hr1, hf⟩ := ob_el hf
  have post7 : ∀ (e7_l2 : Int32) (e7_l3 : Int32) (e7_l4 : Int32) (H : Heap) (locs : List Loc) (ls : Array Slot), (some e7_l2) = some out → va_P D vwCl (shW K q vw vk vr vp vb vi vwc vl vg vo vsc) H → va_D A (shW K q vw vk vr vp vb vi vwc vl vg vo vsc) → va_S A H0 H locs → lv_has ls 5 [(4, .int e7_l4), (3, .int e7_l3), (2, .int e7_l2), (0, .ref (q 0)), (1, .int p0)] → W p l e rmX3_weigh s m args below meth c H locs 0 0 Q (F0 m 57 ls []) := by
    intro e7_l2 e7_l3 e7_l4 H locs ls hf hP hD hS hl
    refine lv_iload_n hx hb dX3_weigh_57 rfl (lv_at hl 2 rfl) ?_
    obtain rfl := Option.some.inj hf
    exact hret rfl rfl rfl hP hD hS dX3_weigh_58
  have lp7 : ∀ (fu : Nat) (x7_l2 : Int32) (x7_l3 : Int32) (x7_l4 : Int32) (H : Heap) (locs : List Loc) (ls : Array Slot), wh (s_X3_weigh_7 vw vr) fu (x7_l2, x7_l3, x7_l4) = some r1 → va_P D vwCl (shW K q vw vk vr vp vb vi vwc vl vg vo vsc) H → va_D A (shW K q vw vk vr vp vb vi vwc vl vg vo vsc) → va_S A H0 H locs → lv_has ls 5 [(4, .int x7_l4), (3, .int x7_l3), (2, .int x7_l2), (0, .ref (q 0)), (1, .int p0)] → W p l e rmX3_weigh s m args below meth c H locs 0 0 Q (F0 m 7 ls []) := by
    intro fu
    induction fu with
    | zero => intro x7_l2 x7_l3 x7_l4 H locs ls hw7; cases hw7
    | succ fu ih7 =>
      intro x7_l2 x7_l3 x7_l4 H locs ls hw7 hP hD hS hl
      obtain ⟨o7_, hs7, hw7⟩ := wh_el hw7
      unfold s_X3_weigh_7 at hs7
      dsimp only at hs7
      refine lv_iload hx hb dX3_weigh_7 (lv_at hl 0 rfl) ?_
      refine lv_bipush (v := 12) hx hb dX3_weigh_9 (by decide) ?_
      refine lv_icmp_ge (tgt := 57) hx hb dX3_weigh_11 (by decide) (fun c2 => ?_) (fun c2 => ?_)
      · rw [if_pos c2] at hs7
        obtain rfl := Option.some.inj hs7
        have e9 := Option.some.inj hw7
        rw [← e9] at hf
        exact post7 _ _ _ _ _ _ hf hP hD hS (lv_sub hl [0, 1, 2, 3, 4] rfl)
      · rw [if_neg c2] at hs7
        refine lv_iload hx hb dX3_weigh_14 (lv_at hl 0 rfl) ?_
        refine lv_iload_n hx hb dX3_weigh_16 rfl (lv_at hl 1 rfl) ?_
        obtain ⟨o3, ho3, hs7⟩ := bd_el hs7
        refine kc0_i (D := D) (va_runSN (As := [.int x7_l4, .int x7_l3]) (rest := []) ⟨hx, hb, hml, hown, hts⟩ ((k_X4_isIn l D K x7_l4 x7_l3 o3 ho3) H.size) ⟨va_cnB 2 hts gX3_weigh_X4_isIn_n54 rfl rfl rfl (hN _ (List.mem_of_getElem? (i := 34) rfl)) (hts (.initialized RX4) (List.mem_of_getElem? (i := 3) rfl)) yd_X4_isIn ⟨Nat.le_of_ble_eq_true rfl, Nat.le_of_ble_eq_true rfl⟩, (hts (.static yX4_isIn) (List.mem_of_getElem? (i := 2) rfl)), trivial⟩ (kPreS va_P_nil (va_D_nil (A := fun _ => True)) hK hN) rfl rfl hl.1 rfl (lv_room (Nat.le_of_ble_eq_true rfl)) dX3_weigh_17 ⟨Nat.le_of_ble_eq_true rfl, Nat.le_of_ble_eq_true rfl⟩) hP hS hA (fun hzo3 H locs hP hS => ?_)
        refine lv_if_eq (tgt := 51) hx hb dX3_weigh_20 (by decide) (fun c4 => ?_) (fun c4 => ?_)
        · rw [if_pos c4] at hs7
          refine lv_iinc (v := (x7_l4 + 1)) (lv' := [(4, .int (x7_l4 + 1)), (3, .int x7_l3), (2, .int x7_l2), (0, .ref (q 0)), (1, .int p0)]) hx hb dX3_weigh_51 hl (k := 0) rfl (by rfl) (by decide) rfl (fun ls hl => ?_)
          refine lv_goto (tgt := 7) hx hb dX3_weigh_54 (by decide) ?_
          obtain rfl := Option.some.inj hs7
          exact ih7 _ _ _ _ _ _ hw7 hP hD hS (lv_sub hl [0, 1, 2, 3, 4] rfl)
        · rw [if_neg c4] at hs7
          refine lv_iload_n hx hb dX3_weigh_23 rfl (lv_at hl 2 rfl) ?_
          refine lv_aload_n hx hb dX3_weigh_24 rfl (lv_at hl 3 rfl) ?_
          refine lv_iload_n hx hb dX3_weigh_25 rfl (lv_at hl 1 rfl) ?_
          refine lv_aload_n hx hb dX3_weigh_26 rfl (lv_at hl 3 rfl) ?_
          refine va_get (D := D) (ci := 3) (v := .ref (q 3)) (C := RX3) (T := TX3) (N := 11) hx hb hts inX3_weigh_X3 hown hK hP 0 rfl rfl 2 (by decide) (hts (.fieldLink RX3 18 "WordScales$Shop" "rhymes" "[I") (List.mem_of_getElem? (i := 1) rfl)) (fun _ h9 => h9) rfl dX3_weigh_27 ?_
          refine lv_iload hx hb dX3_weigh_30 (lv_at hl 0 rfl) ?_
          obtain ⟨v5, hs7⟩ := chk_el hs7
          refine va_iald (D := D) (f := vr) hx hb hK hP 3 0 rfl rfl v5 dX3_weigh_32 ?_
          refine lv_iand hx hb dX3_weigh_33 ?_
          obtain ⟨o6, ho6, hs7⟩ := ob_el hs7
          refine kcw_i (D := D) (va_runV (As := [.int (x7_l3 &&& (vr (x7_l4).toNatClampNeg))]) (rest := [.int x7_l2]) ⟨hx, hb, hml, hown, hts⟩ ((k_X3_heaviestOf l D K q vw vk vr vp vb vi vwc vl vg vo vsc (x7_l3 &&& (vr (x7_l4).toNatClampNeg)) o6 ho6) H.size) (cwV 1 hts gX3_weigh_X3_heaviestOf rfl rfl rfl ⟨rfl, yd_X3_heaviestOf⟩ ⟨Nat.le_of_ble_eq_true rfl, Nat.le_of_ble_eq_true rfl⟩) (kPreV (ci := 3) (q0 := 0) hP rfl rfl hP hD hK hN) rfl rfl hl.1 rfl (lv_room (Nat.le_of_ble_eq_true rfl)) dX3_weigh_34 ⟨Nat.le_of_ble_eq_true rfl, Nat.le_of_ble_eq_true rfl⟩) hD hS hA (fun hzo6 H locs hP hD hS => ?_)
          have hP : va_P D vwCl (shW K q vw vk vr vp vb vi vwc vl vg vo vsc) H := hP
          have hD : va_D A (shW K q vw vk vr vp vb vi vwc vl vg vo vsc) := hD
          refine lv_iadd hx hb dX3_weigh_37 ?_
          refine lv_istore_n (lv' := [(2, .int (x7_l2 + o6)), (4, .int x7_l4), (3, .int x7_l3), (0, .ref (q 0)), (1, .int p0)]) hx hb dX3_weigh_38 rfl hl (by decide) rfl (fun ls hl => ?_)
          refine lv_iload_n hx hb dX3_weigh_39 rfl (lv_at hl 2 rfl) ?_
          refine lv_aload_n hx hb dX3_weigh_40 rfl (lv_at hl 3 rfl) ?_
          refine va_get (D := D) (ci := 3) (v := .ref (q 3)) (C := RX3) (T := TX3) (N := 11) hx hb hts inX3_weigh_X3 hown hK hP 0 rfl rfl 2 (by decide) (hts (.fieldLink RX3 18 "WordScales$Shop" "rhymes" "[I") (List.mem_of_getElem? (i := 1) rfl)) (fun _ h9 => h9) rfl dX3_weigh_41 ?_
          refine lv_iload hx hb dX3_weigh_44 (lv_at hl 1 rfl) ?_
          refine va_iald (D := D) (f := vr) hx hb hK hP 3 0 rfl rfl v5 dX3_weigh_46 ?_
          refine lv_iconst (v := (-1)) hx hb dX3_weigh_47 (by decide) ?_
          refine lv_ixor hx hb dX3_weigh_48 ?_
          refine lv_iand hx hb dX3_weigh_49 ?_
          refine lv_istore_n (lv' := [(3, .int (x7_l3 &&& ((vr (x7_l4).toNatClampNeg) ^^^ (-1)))), (2, .int (x7_l2 + o6)), (4, .int x7_l4), (0, .ref (q 0)), (1, .int p0)]) hx hb dX3_weigh_50 rfl hl (by decide) rfl (fun ls hl => ?_)
          refine lv_iinc (v := (x7_l4 + 1)) (lv' := [(4, .int (x7_l4 + 1)), (3, .int (x7_l3 &&& ((vr (x7_l4).toNatClampNeg) ^^^ (-1)))), (2, .int (x7_l2 + o6)), (0, .ref (q 0)), (1, .int p0)]) hx hb dX3_weigh_51 hl (k := 2) rfl (by rfl) (by decide) rfl (fun ls hl => ?_)
          refine lv_goto (tgt := 7) hx hb dX3_weigh_54 (by decide) ?_
          obtain rfl := Option.some.inj hs7
          exact ih7 _ _ _ _ _ _ hw7 hP hD hS (lv_sub hl [0, 1, 2, 3, 4] rfl)
  exact lp7 5000 _ _ _ _ _ _ hr1 hP hD hS (lv_sub hl [0, 1, 2, 3, 4] rfl)
def s_X3_priceOf_4 (vw : Nat → Int32) (p0 : Int32) (x : Int32 × Int32) : Option ((Int32 × Int32) ⊕ (Int32 × Int32)) := if 12 ≤ x.2 then (some (.inr (x.1, x.2))) else (bd (f_X4_isIn x.2 p0) (fun o3 => if o3 = 0 then (some (.inl (x.1, (x.2 + 1)))) else (chk x.2 12 (some (.inl ((x.1 + (vw (x.2).toNatClampNeg)), (x.2 + 1)))))))
def f_X3_priceOf (vw : Nat → Int32) (p0 : Int32) : Option (Int32) := ob (wh (s_X3_priceOf_4 vw p0) 5000 (0, 0)) (fun r1 => some r1.1)
theorem inX3_priceOf_X3 : ∀ w ∈ wsX30, w ∈ wsX3_priceOf := fun w h => List.mem_cons_of_mem _ (List.mem_append_right _ h)
theorem yd_X3_priceOf : yX3_priceOf.cls ≠ "java/lang/invoke/MethodHandle" ∧ yX3_priceOf.cls ≠ "java/lang/invoke/VarHandle" ∧ (parseMethodDescriptor yX3_priceOf.desc).map (fun d => d.parameters.length) = some 1 := by decide +kernel
abbrev rmX3_priceOf : Room := { frames := 1, cells := 0, slots := 0, locals := 21 }
set_option maxHeartbeats 4000000 in
set_option maxRecDepth 100000 in
theorem k_X3_priceOf (l : Launch) (D : va_G) (K : Nat → ClassId) (q : Nat → Nat) (vw : Nat → Int32) (vk : Nat → Int32) (vr : Nat → Int32) (vp : Nat → Int32) (vb : Nat → Int32) (vi : Nat → Int32) (vwc : Int32) (vl : Nat → Int32) (vg : Nat → Int32) (vo : Nat → Int32) (vsc : Int32) (p0 : Int32) (out : Int32) (hf : f_X3_priceOf vw p0 = some out) : kI l D K .int yX3_priceOf wsX3_priceOf rmX3_priceOf [.ref (q 0), .int p0] (shW K q vw vk vr vp vb vi vwc vl vg vo vsc) out (shW K q vw vk vr vp vb vi vwc vl vg vo vsc) := by
  refine kI.of (cc := cX3_priceOf) (maxL := 4) (by decide) rfl (Nat.le_of_ble_eq_true rfl) ?_
  intro p e s m args below meth c A H0 Q ls hx hb hml hown hts hK hN hA hP hD hS hl hret
  have hown : s.vm.findClass RX3 = some m.cls := hown
  have hl : lv_has ls 4 [(0, .ref (q 0)), (1, .int p0)] := hl
  generalize hH : H0 = H at hP ⊢
  have hS : va_S A H0 H [] := by rw [← hH]; exact hS
  clear hH
  unfold f_X3_priceOf at hf
  refine lv_iconst (v := 0) hx hb dX3_priceOf_0 (by decide) ?_
  refine lv_istore_n (lv' := [(2, .int 0), (0, .ref (q 0)), (1, .int p0)]) hx hb dX3_priceOf_1 rfl hl (by decide) rfl (fun ls hl => ?_)
  refine lv_iconst (v := 0) hx hb dX3_priceOf_2 (by decide) ?_
  refine lv_istore_n (lv' := [(3, .int 0), (2, .int 0), (0, .ref (q 0)), (1, .int p0)]) hx hb dX3_priceOf_3 rfl hl (by decide) rfl (fun ls hl => ?_)
  obtain ⟨r1, hr1, hf⟩ := ob_el hf
  have post4 : ∀ (e4_l2 : Int32) (e4_l3 : Int32) (H : Heap) (locs : List Loc) (ls : Array Slot), (some e4_l2) = some out → va_P D vwCl (shW K q vw vk vr vp vb vi vwc vl vg vo vsc) H → va_D A (shW K q vw vk vr vp vb vi vwc vl vg vo vsc) → va_S A H0 H locs → lv_has ls 4 [(3, .int e4_l3), (2, .int e4_l2), (0, .ref (q 0)), (1, .int p0)] → W p l e rmX3_priceOf s m args below meth c H locs 0 0 Q (F0 m 33 ls []) := by
    intro e4_l2 e4_l3 H locs ls hf hP hD hS hl
    refine lv_iload_n hx hb dX3_priceOf_33 rfl (lv_at hl 1 rfl) ?_
    obtain rfl := Option.some.inj hf
    exact hret rfl rfl rfl hP hD hS dX3_priceOf_34
  have lp4 : ∀ (fu : Nat) (x4_l2 : Int32) (x4_l3 : Int32) (H : Heap) (locs : List Loc) (ls : Array Slot), wh (s_X3_priceOf_4 vw p0) fu (x4_l2, x4_l3) = some r1 → va_P D vwCl (shW K q vw vk vr vp vb vi vwc vl vg vo vsc) H → va_D A (shW K q vw vk vr vp vb vi vwc vl vg vo vsc) → va_S A H0 H locs → lv_has ls 4 [(3, .int x4_l3), (2, .int x4_l2), (0, .ref (q 0)), (1, .int p0)] → W p l e rmX3_priceOf s m args below meth c H locs 0 0 Q (F0 m 4 ls []) := by
    intro fu
    induction fu with
    | zero => intro x4_l2 x4_l3 H locs ls hw4; cases hw4
    | succ fu ih4 =>
      intro x4_l2 x4_l3 H locs ls hw4 hP hD hS hl
      obtain ⟨o4_, hs4, hw4⟩ := wh_el hw4
      unfold s_X3_priceOf_4 at hs4
      dsimp only at hs4
      refine lv_iload_n hx hb dX3_priceOf_4 rfl (lv_at hl 0 rfl) ?_
      refine lv_bipush (v := 12) hx hb dX3_priceOf_5 (by decide) ?_
      refine lv_icmp_ge (tgt := 33) hx hb dX3_priceOf_7 (by decide) (fun c2 => ?_) (fun c2 => ?_)
      · rw [if_pos c2] at hs4
        obtain rfl := Option.some.inj hs4
        have e9 := Option.some.inj hw4
        rw [← e9] at hf
        exact post4 _ _ _ _ _ hf hP hD hS (lv_sub hl [0, 1, 2, 3] rfl)
      · rw [if_neg c2] at hs4
        refine lv_iload_n hx hb dX3_priceOf_10 rfl (lv_at hl 0 rfl) ?_
        refine lv_iload_n hx hb dX3_priceOf_11 rfl (lv_at hl 3 rfl) ?_
        obtain ⟨o3, ho3, hs4⟩ := bd_el hs4
        refine kc0_i (D := D) (va_runSN (As := [.int x4_l3, .int p0]) (rest := []) ⟨hx, hb, hml, hown, hts⟩ ((k_X4_isIn l D K x4_l3 p0 o3 ho3) H.size) ⟨va_cnB 2 hts gX3_priceOf_X4_isIn_n54 rfl rfl rfl (hN _ (List.mem_of_getElem? (i := 34) rfl)) (hts (.initialized RX4) (List.mem_of_getElem? (i := 3) rfl)) yd_X4_isIn ⟨Nat.le_of_ble_eq_true rfl, Nat.le_of_ble_eq_true rfl⟩, (hts (.static yX4_isIn) (List.mem_of_getElem? (i := 2) rfl)), trivial⟩ (kPreS va_P_nil (va_D_nil (A := fun _ => True)) hK hN) rfl rfl hl.1 rfl (lv_room (Nat.le_of_ble_eq_true rfl)) dX3_priceOf_12 ⟨Nat.le_of_ble_eq_true rfl, Nat.le_of_ble_eq_true rfl⟩) hP hS hA (fun hzo3 H locs hP hS => ?_)
        refine lv_if_eq (tgt := 27) hx hb dX3_priceOf_15 (by decide) (fun c4 => ?_) (fun c4 => ?_)
        · rw [if_pos c4] at hs4
          refine lv_iinc (v := (x4_l3 + 1)) (lv' := [(3, .int (x4_l3 + 1)), (2, .int x4_l2), (0, .ref (q 0)), (1, .int p0)]) hx hb dX3_priceOf_27 hl (k := 0) rfl (by rfl) (by decide) rfl (fun ls hl => ?_)
          refine lv_goto (tgt := 4) hx hb dX3_priceOf_30 (by decide) ?_
          obtain rfl := Option.some.inj hs4
          exact ih4 _ _ _ _ _ hw4 hP hD hS (lv_sub hl [0, 1, 2, 3] rfl)
        · rw [if_neg c4] at hs4
          refine lv_iload_n hx hb dX3_priceOf_18 rfl (lv_at hl 1 rfl) ?_
          refine lv_aload_n hx hb dX3_priceOf_19 rfl (lv_at hl 2 rfl) ?_
          refine va_get (D := D) (ci := 3) (v := .ref (q 1)) (C := RX3) (T := TX3) (N := 11) hx hb hts inX3_priceOf_X3 hown hK hP 0 rfl rfl 0 (by decide) (hts (.fieldLink RX3 9 "WordScales$Shop" "weights" "[I") (List.mem_of_getElem? (i := 1) rfl)) (fun _ h9 => h9) rfl dX3_priceOf_20 ?_
          refine lv_iload_n hx hb dX3_priceOf_23 rfl (lv_at hl 0 rfl) ?_
          obtain ⟨v5, hs4⟩ := chk_el hs4
          refine va_iald (D := D) (f := vw) hx hb hK hP 1 0 rfl rfl v5 dX3_priceOf_24 ?_
          refine lv_iadd hx hb dX3_priceOf_25 ?_
          refine lv_istore_n (lv' := [(2, .int (x4_l2 + (vw (x4_l3).toNatClampNeg))), (3, .int x4_l3), (0, .ref (q 0)), (1, .int p0)]) hx hb dX3_priceOf_26 rfl hl (by decide) rfl (fun ls hl => ?_)
          refine lv_iinc (v := (x4_l3 + 1)) (lv' := [(3, .int (x4_l3 + 1)), (2, .int (x4_l2 + (vw (x4_l3).toNatClampNeg))), (0, .ref (q 0)), (1, .int p0)]) hx hb dX3_priceOf_27 hl (k := 1) rfl (by rfl) (by decide) rfl (fun ls hl => ?_)
          refine lv_goto (tgt := 4) hx hb dX3_priceOf_30 (by decide) ?_
          obtain rfl := Option.some.inj hs4
          exact ih4 _ _ _ _ _ hw4 hP hD hS (lv_sub hl [0, 1, 2, 3] rfl)
  exact lp4 5000 _ _ _ _ _ hr1 hP hD hS (lv_sub hl [0, 1, 2, 3] rfl)
def s_X3_ofKind_4 (vk : Nat → Int32) (p0 : Int32) (x : Int32 × Int32) : Option ((Int32 × Int32) ⊕ (Int32 × Int32)) := if 12 ≤ x.2 then (some (.inr (x.1, x.2))) else (chk x.2 12 (if (vk (x.2).toNatClampNeg) = p0 then (some (.inl ((x.1 ||| (1 <<< (x.2 &&& 31))), (x.2 + 1)))) else (some (.inl (x.1, (x.2 + 1))))))
def f_X3_ofKind (vk : Nat → Int32) (p0 : Int32) : Option (Int32) := ob (wh (s_X3_ofKind_4 vk p0) 5000 (0, 0)) (fun r1 => some r1.1)
theorem inX3_ofKind_X3 : ∀ w ∈ wsX30, w ∈ wsX3_ofKind := fun w h => List.mem_cons_of_mem _ (List.mem_append_right _ h)
theorem yd_X3_ofKind : yX3_ofKind.cls ≠ "java/lang/invoke/MethodHandle" ∧ yX3_ofKind.cls ≠ "java/lang/invoke/VarHandle" ∧ (parseMethodDescriptor yX3_ofKind.desc).map (fun d => d.parameters.length) = some 1 := by decide +kernel
abbrev rmX3_ofKind : Room := { frames := 0, cells := 0, slots := 0, locals := 0 }
set_option maxHeartbeats 4000000 in
set_option maxRecDepth 100000 in
theorem k_X3_ofKind (l : Launch) (D : va_G) (K : Nat → ClassId) (q : Nat → Nat) (vw : Nat → Int32) (vk : Nat → Int32) (vr : Nat → Int32) (vp : Nat → Int32) (vb : Nat → Int32) (vi : Nat → Int32) (vwc : Int32) (vl : Nat → Int32) (vg : Nat → Int32) (vo : Nat → Int32) (vsc : Int32) (p0 : Int32) (out : Int32) (hf : f_X3_ofKind vk p0 = some out) : kI l D K .int yX3_ofKind wsX3_ofKind rmX3_ofKind [.ref (q 0), .int p0] (shW K q vw vk vr vp vb vi vwc vl vg vo vsc) out (shW K q vw vk vr vp vb vi vwc vl vg vo vsc) := by
  refine kI.of (cc := cX3_ofKind) (maxL := 4) (by decide) rfl (Nat.le_of_ble_eq_true rfl) ?_
  intro p e s m args below meth c A H0 Q ls hx hb hml hown hts hK hN hA hP hD hS hl hret
  have hown : s.vm.findClass RX3 = some m.cls := hown
  have hl : lv_has ls 4 [(0, .ref (q 0)), (1, .int p0)] := hl
  generalize hH : H0 = H at hP ⊢
  have hS : va_S A H0 H [] := by rw [← hH]; exact hS
  clear hH
  unfold f_X3_ofKind at hf
  refine lv_iconst (v := 0) hx hb dX3_ofKind_0 (by decide) ?_
  refine lv_istore_n (lv' := [(2, .int 0), (0, .ref (q 0)), (1, .int p0)]) hx hb dX3_ofKind_1 rfl hl (by decide) rfl (fun ls hl => ?_)
  refine lv_iconst (v := 0) hx hb dX3_ofKind_2 (by decide) ?_
  refine lv_istore_n (lv' := [(3, .int 0), (2, .int 0), (0, .ref (q 0)), (1, .int p0)]) hx hb dX3_ofKind_3 rfl hl (by decide) rfl (fun ls hl => ?_)
  obtain ⟨r1, hr1, hf⟩ := ob_el hf
  have post4 : ∀ (e4_l2 : Int32) (e4_l3 : Int32) (H : Heap) (locs : List Loc) (ls : Array Slot), (some e4_l2) = some out → va_P D vwCl (shW K q vw vk vr vp vb vi vwc vl vg vo vsc) H → va_D A (shW K q vw vk vr vp vb vi vwc vl vg vo vsc) → va_S A H0 H locs → lv_has ls 4 [(3, .int e4_l3), (2, .int e4_l2), (0, .ref (q 0)), (1, .int p0)] → W p l e rmX3_ofKind s m args below meth c H locs 0 0 Q (F0 m 32 ls []) := by
    intro e4_l2 e4_l3 H locs ls hf hP hD hS hl
    refine lv_iload_n hx hb dX3_ofKind_32 rfl (lv_at hl 1 rfl) ?_
    obtain rfl := Option.some.inj hf
    exact hret rfl rfl rfl hP hD hS dX3_ofKind_33
  have lp4 : ∀ (fu : Nat) (x4_l2 : Int32) (x4_l3 : Int32) (H : Heap) (locs : List Loc) (ls : Array Slot), wh (s_X3_ofKind_4 vk p0) fu (x4_l2, x4_l3) = some r1 → va_P D vwCl (shW K q vw vk vr vp vb vi vwc vl vg vo vsc) H → va_D A (shW K q vw vk vr vp vb vi vwc vl vg vo vsc) → va_S A H0 H locs → lv_has ls 4 [(3, .int x4_l3), (2, .int x4_l2), (0, .ref (q 0)), (1, .int p0)] → W p l e rmX3_ofKind s m args below meth c H locs 0 0 Q (F0 m 4 ls []) := by
    intro fu
    induction fu with
    | zero => intro x4_l2 x4_l3 H locs ls hw4; cases hw4
    | succ fu ih4 =>
      intro x4_l2 x4_l3 H locs ls hw4 hP hD hS hl
      obtain ⟨o4_, hs4, hw4⟩ := wh_el hw4
      unfold s_X3_ofKind_4 at hs4
      dsimp only at hs4
      refine lv_iload_n hx hb dX3_ofKind_4 rfl (lv_at hl 0 rfl) ?_
      refine lv_bipush (v := 12) hx hb dX3_ofKind_5 (by decide) ?_
      refine lv_icmp_ge (tgt := 32) hx hb dX3_ofKind_7 (by decide) (fun c2 => ?_) (fun c2 => ?_)
      · rw [if_pos c2] at hs4
        obtain rfl := Option.some.inj hs4
        have e9 := Option.some.inj hw4
        rw [← e9] at hf
        exact post4 _ _ _ _ _ hf hP hD hS (lv_sub hl [0, 1, 2, 3] rfl)
      · rw [if_neg c2] at hs4
        refine lv_aload_n hx hb dX3_ofKind_10 rfl (lv_at hl 2 rfl) ?_
        refine va_get (D := D) (ci := 3) (v := .ref (q 2)) (C := RX3) (T := TX3) (N := 11) hx hb hts inX3_ofKind_X3 hown hK hP 0 rfl rfl 1 (by decide) (hts (.fieldLink RX3 15 "WordScales$Shop" "kinds" "[I") (List.mem_of_getElem? (i := 1) rfl)) (fun _ h9 => h9) rfl dX3_ofKind_11 ?_
        refine lv_iload_n hx hb dX3_ofKind_14 rfl (lv_at hl 0 rfl) ?_
        obtain ⟨v3, hs4⟩ := chk_el hs4
        refine va_iald (D := D) (f := vk) hx hb hK hP 2 0 rfl rfl v3 dX3_ofKind_15 ?_
        refine lv_iload_n hx hb dX3_ofKind_16 rfl (lv_at hl 3 rfl) ?_
        refine lv_icmp_ne (tgt := 26) hx hb dX3_ofKind_17 (by decide) (fun c4 => ?_) (fun c4 => ?_)
        · rw [if_neg c4] at hs4
          refine lv_iinc (v := (x4_l3 + 1)) (lv' := [(3, .int (x4_l3 + 1)), (2, .int x4_l2), (0, .ref (q 0)), (1, .int p0)]) hx hb dX3_ofKind_26 hl (k := 0) rfl (by rfl) (by decide) rfl (fun ls hl => ?_)
          refine lv_goto (tgt := 4) hx hb dX3_ofKind_29 (by decide) ?_
          obtain rfl := Option.some.inj hs4
          exact ih4 _ _ _ _ _ hw4 hP hD hS (lv_sub hl [0, 1, 2, 3] rfl)
        · rw [if_pos c4] at hs4
          refine lv_iload_n hx hb dX3_ofKind_20 rfl (lv_at hl 1 rfl) ?_
          refine lv_iconst (v := 1) hx hb dX3_ofKind_21 (by decide) ?_
          refine lv_iload_n hx hb dX3_ofKind_22 rfl (lv_at hl 0 rfl) ?_
          refine lv_ishl hx hb dX3_ofKind_23 ?_
          refine lv_ior hx hb dX3_ofKind_24 ?_
          refine lv_istore_n (lv' := [(2, .int (x4_l2 ||| (1 <<< (x4_l3 &&& 31)))), (3, .int x4_l3), (0, .ref (q 0)), (1, .int p0)]) hx hb dX3_ofKind_25 rfl hl (by decide) rfl (fun ls hl => ?_)
          refine lv_iinc (v := (x4_l3 + 1)) (lv' := [(3, .int (x4_l3 + 1)), (2, .int (x4_l2 ||| (1 <<< (x4_l3 &&& 31)))), (0, .ref (q 0)), (1, .int p0)]) hx hb dX3_ofKind_26 hl (k := 1) rfl (by rfl) (by decide) rfl (fun ls hl => ?_)
          refine lv_goto (tgt := 4) hx hb dX3_ofKind_29 (by decide) ?_
          obtain rfl := Option.some.inj hs4
          exact ih4 _ _ _ _ _ hw4 hP hD hS (lv_sub hl [0, 1, 2, 3] rfl)
  exact lp4 5000 _ _ _ _ _ hr1 hP hD hS (lv_sub hl [0, 1, 2, 3] rfl)
def f_X3_countKind (vk : Nat → Int32) (p0 : Int32) (p1 : Int32) : Option (Int32) := ob (f_X3_ofKind vk p1) (fun o1 => bd (f_J6_bitCount_0f7a4 (p0 &&& o1)) (fun o2 => some o2))
theorem yd_X3_countKind : yX3_countKind.cls ≠ "java/lang/invoke/MethodHandle" ∧ yX3_countKind.cls ≠ "java/lang/invoke/VarHandle" ∧ (parseMethodDescriptor yX3_countKind.desc).map (fun d => d.parameters.length) = some 2 := by decide +kernel
abbrev rmX3_countKind : Room := { frames := 1, cells := 0, slots := 0, locals := 23 }
set_option maxHeartbeats 4000000 in
set_option maxRecDepth 100000 in
theorem k_X3_countKind (l : Launch) (D : va_G) (K : Nat → ClassId) (q : Nat → Nat) (vw : Nat → Int32) (vk : Nat → Int32) (vr : Nat → Int32) (vp : Nat → Int32) (vb : Nat → Int32) (vi : Nat → Int32) (vwc : Int32) (vl : Nat → Int32) (vg : Nat → Int32) (vo : Nat → Int32) (vsc : Int32) (p0 : Int32) (p1 : Int32) (out : Int32) (hf : f_X3_countKind vk p0 p1 = some out) : kI l D K .int yX3_countKind wsX3_countKind rmX3_countKind [.ref (q 0), .int p0, .int p1] (shW K q vw vk vr vp vb vi vwc vl vg vo vsc) out (shW K q vw vk vr vp vb vi vwc vl vg vo vsc) := by
  refine kI.of (cc := cX3_countKind) (maxL := 3) (by decide) rfl (Nat.le_of_ble_eq_true rfl) ?_
  intro p e s m args below meth c A H0 Q ls hx hb hml hown hts hK hN hA hP hD hS hl hret
  have hown : s.vm.findClass RX3 = some m.cls := hown
  have hl : lv_has ls 3 [(0, .ref (q 0)), (1, .int p0), (2, .int p1)] := hl
  generalize hH : H0 = H at hP ⊢
  have hS : va_S A H0 H [] := by rw [← hH]; exact hS
  clear hH
  unfold f_X3_countKind at hf
  refine lv_iload_n hx hb dX3_countKind_0 rfl (lv_at hl 1 rfl) ?_
  refine lv_aload_n hx hb dX3_countKind_1 rfl (lv_at hl 0 rfl) ?_
  refine lv_iload_n hx hb dX3_countKind_2 rfl (lv_at hl 2 rfl) ?_
  obtain ⟨o1, ho1, hf⟩ := ob_el hf
  refine kcw_i (D := D) (va_runV (As := [.int p1]) (rest := [.int p0]) ⟨hx, hb, hml, hown, hts⟩ ((k_X3_ofKind l D K q vw vk vr vp vb vi vwc vl vg vo vsc p1 o1 ho1) H.size) (cwV 1 hts gX3_countKind_X3_ofKind rfl rfl rfl ⟨rfl, yd_X3_ofKind⟩ ⟨Nat.le_of_ble_eq_true rfl, Nat.le_of_ble_eq_true rfl⟩) (kPreV (ci := 3) (q0 := 0) hP rfl rfl hP hD hK hN) rfl rfl hl.1 rfl (lv_room (Nat.le_of_ble_eq_true rfl)) dX3_countKind_3 ⟨Nat.le_of_ble_eq_true rfl, Nat.le_of_ble_eq_true rfl⟩) hD hS hA (fun hzo1 H locs hP hD hS => ?_)
  have hP : va_P D vwCl (shW K q vw vk vr vp vb vi vwc vl vg vo vsc) H := hP
  have hD : va_D A (shW K q vw vk vr vp vb vi vwc vl vg vo vsc) := hD
  refine lv_iand hx hb dX3_countKind_6 ?_
  obtain ⟨o2, ho2, hf⟩ := bd_el hf
  refine kc0_i (D := D) (va_runS (As := [.int (p0 &&& o1)]) (rest := []) ⟨hx, hb, hml, hown, hts⟩ ((k_J6_bitCount_0f7a4 l D K (p0 &&& o1) o2 ho2) H.size) (va_cwS 1 hts gX3_countKind_J6_bitCount_0f7a4 rfl rfl rfl yd_J6_bitCount_0f7a4 ⟨Nat.le_of_ble_eq_true rfl, Nat.le_of_ble_eq_true rfl⟩) (kPreS va_P_nil (va_D_nil (A := fun _ => True)) hK hN) rfl rfl hl.1 rfl (lv_room (Nat.le_of_ble_eq_true rfl)) dX3_countKind_7 ⟨Nat.le_of_ble_eq_true rfl, Nat.le_of_ble_eq_true rfl⟩) hP hS hA (fun hzo2 H locs hP hS => ?_)
  obtain rfl := Option.some.inj hf
  exact hret rfl rfl rfl hP hD hS dX3_countKind_10
def s_X3_heldBy_4 (vb : Nat → Int32) (p0 : Int32) (x : Int32 × Int32) : Option ((Int32 × Int32) ⊕ (Int32 × Int32)) := if 4 ≤ x.2 then (some (.inr (x.1, x.2))) else (bd (f_X4_isIn x.2 p0) (fun o3 => if o3 = 0 then (some (.inl (x.1, (x.2 + 1)))) else (chk x.2 4 (some (.inl ((x.1 ||| (vb (x.2).toNatClampNeg)), (x.2 + 1)))))))
def f_X3_heldBy (vb : Nat → Int32) (p0 : Int32) : Option (Int32) := ob (wh (s_X3_heldBy_4 vb p0) 5000 (0, 0)) (fun r1 => some r1.1)
theorem inX3_heldBy_X3 : ∀ w ∈ wsX30, w ∈ wsX3_heldBy := fun w h => List.mem_cons_of_mem _ (List.mem_append_right _ h)
theorem yd_X3_heldBy : yX3_heldBy.cls ≠ "java/lang/invoke/MethodHandle" ∧ yX3_heldBy.cls ≠ "java/lang/invoke/VarHandle" ∧ (parseMethodDescriptor yX3_heldBy.desc).map (fun d => d.parameters.length) = some 1 := by decide +kernel
abbrev rmX3_heldBy : Room := { frames := 1, cells := 0, slots := 0, locals := 21 }
set_option maxHeartbeats 4000000 in
set_option maxRecDepth 100000 in
theorem k_X3_heldBy (l : Launch) (D : va_G) (K : Nat → ClassId) (q : Nat → Nat) (vw : Nat → Int32) (vk : Nat → Int32) (vr : Nat → Int32) (vp : Nat → Int32) (vb : Nat → Int32) (vi : Nat → Int32) (vwc : Int32) (vl : Nat → Int32) (vg : Nat → Int32) (vo : Nat → Int32) (vsc : Int32) (p0 : Int32) (out : Int32) (hf : f_X3_heldBy vb p0 = some out) : kI l D K .int yX3_heldBy wsX3_heldBy rmX3_heldBy [.ref (q 0), .int p0] (shW K q vw vk vr vp vb vi vwc vl vg vo vsc) out (shW K q vw vk vr vp vb vi vwc vl vg vo vsc) := by
  refine kI.of (cc := cX3_heldBy) (maxL := 4) (by decide) rfl (Nat.le_of_ble_eq_true rfl) ?_
  intro p e s m args below meth c A H0 Q ls hx hb hml hown hts hK hN hA hP hD hS hl hret
  have hown : s.vm.findClass RX3 = some m.cls := hown
  have hl : lv_has ls 4 [(0, .ref (q 0)), (1, .int p0)] := hl
  generalize hH : H0 = H at hP ⊢
  have hS : va_S A H0 H [] := by rw [← hH]; exact hS
  clear hH
  unfold f_X3_heldBy at hf
  refine lv_iconst (v := 0) hx hb dX3_heldBy_0 (by decide) ?_
  refine lv_istore_n (lv' := [(2, .int 0), (0, .ref (q 0)), (1, .int p0)]) hx hb dX3_heldBy_1 rfl hl (by decide) rfl (fun ls hl => ?_)
  refine lv_iconst (v := 0) hx hb dX3_heldBy_2 (by decide) ?_
  refine lv_istore_n (lv' := [(3, .int 0), (2, .int 0), (0, .ref (q 0)), (1, .int p0)]) hx hb dX3_heldBy_3 rfl hl (by decide) rfl (fun ls hl => ?_)
  obtain ⟨r1, hr1, hf⟩ := ob_el hf
  have post4 : ∀ (e4_l2 : Int32) (e4_l3 : Int32) (H : Heap) (locs : List Loc) (ls : Array Slot), (some e4_l2) = some out → va_P D vwCl (shW K q vw vk vr vp vb vi vwc vl vg vo vsc) H → va_D A (shW K q vw vk vr vp vb vi vwc vl vg vo vsc) → va_S A H0 H locs → lv_has ls 4 [(3, .int e4_l3), (2, .int e4_l2), (0, .ref (q 0)), (1, .int p0)] → W p l e rmX3_heldBy s m args below meth c H locs 0 0 Q (F0 m 32 ls []) := by
    intro e4_l2 e4_l3 H locs ls hf hP hD hS hl
    refine lv_iload_n hx hb dX3_heldBy_32 rfl (lv_at hl 1 rfl) ?_
    obtain rfl := Option.some.inj hf
    exact hret rfl rfl rfl hP hD hS dX3_heldBy_33
  have lp4 : ∀ (fu : Nat) (x4_l2 : Int32) (x4_l3 : Int32) (H : Heap) (locs : List Loc) (ls : Array Slot), wh (s_X3_heldBy_4 vb p0) fu (x4_l2, x4_l3) = some r1 → va_P D vwCl (shW K q vw vk vr vp vb vi vwc vl vg vo vsc) H → va_D A (shW K q vw vk vr vp vb vi vwc vl vg vo vsc) → va_S A H0 H locs → lv_has ls 4 [(3, .int x4_l3), (2, .int x4_l2), (0, .ref (q 0)), (1, .int p0)] → W p l e rmX3_heldBy s m args below meth c H locs 0 0 Q (F0 m 4 ls []) := by
    intro fu
    induction fu with
    | zero => intro x4_l2 x4_l3 H locs ls hw4; cases hw4
    | succ fu ih4 =>
      intro x4_l2 x4_l3 H locs ls hw4 hP hD hS hl
      obtain ⟨o4_, hs4, hw4⟩ := wh_el hw4
      unfold s_X3_heldBy_4 at hs4
      dsimp only at hs4
      refine lv_iload_n hx hb dX3_heldBy_4 rfl (lv_at hl 0 rfl) ?_
      refine lv_iconst (v := 4) hx hb dX3_heldBy_5 (by decide) ?_
      refine lv_icmp_ge (tgt := 32) hx hb dX3_heldBy_6 (by decide) (fun c2 => ?_) (fun c2 => ?_)
      · rw [if_pos c2] at hs4
        obtain rfl := Option.some.inj hs4
        have e9 := Option.some.inj hw4
        rw [← e9] at hf
        exact post4 _ _ _ _ _ hf hP hD hS (lv_sub hl [0, 1, 2, 3] rfl)
      · rw [if_neg c2] at hs4
        refine lv_iload_n hx hb dX3_heldBy_9 rfl (lv_at hl 0 rfl) ?_
        refine lv_iload_n hx hb dX3_heldBy_10 rfl (lv_at hl 3 rfl) ?_
        obtain ⟨o3, ho3, hs4⟩ := bd_el hs4
        refine kc0_i (D := D) (va_runSN (As := [.int x4_l3, .int p0]) (rest := []) ⟨hx, hb, hml, hown, hts⟩ ((k_X4_isIn l D K x4_l3 p0 o3 ho3) H.size) ⟨va_cnB 2 hts gX3_heldBy_X4_isIn_n54 rfl rfl rfl (hN _ (List.mem_of_getElem? (i := 34) rfl)) (hts (.initialized RX4) (List.mem_of_getElem? (i := 3) rfl)) yd_X4_isIn ⟨Nat.le_of_ble_eq_true rfl, Nat.le_of_ble_eq_true rfl⟩, (hts (.static yX4_isIn) (List.mem_of_getElem? (i := 2) rfl)), trivial⟩ (kPreS va_P_nil (va_D_nil (A := fun _ => True)) hK hN) rfl rfl hl.1 rfl (lv_room (Nat.le_of_ble_eq_true rfl)) dX3_heldBy_11 ⟨Nat.le_of_ble_eq_true rfl, Nat.le_of_ble_eq_true rfl⟩) hP hS hA (fun hzo3 H locs hP hS => ?_)
        refine lv_if_eq (tgt := 26) hx hb dX3_heldBy_14 (by decide) (fun c4 => ?_) (fun c4 => ?_)
        · rw [if_pos c4] at hs4
          refine lv_iinc (v := (x4_l3 + 1)) (lv' := [(3, .int (x4_l3 + 1)), (2, .int x4_l2), (0, .ref (q 0)), (1, .int p0)]) hx hb dX3_heldBy_26 hl (k := 0) rfl (by rfl) (by decide) rfl (fun ls hl => ?_)
          refine lv_goto (tgt := 4) hx hb dX3_heldBy_29 (by decide) ?_
          obtain rfl := Option.some.inj hs4
          exact ih4 _ _ _ _ _ hw4 hP hD hS (lv_sub hl [0, 1, 2, 3] rfl)
        · rw [if_neg c4] at hs4
          refine lv_iload_n hx hb dX3_heldBy_17 rfl (lv_at hl 1 rfl) ?_
          refine lv_aload_n hx hb dX3_heldBy_18 rfl (lv_at hl 2 rfl) ?_
          refine va_get (D := D) (ci := 3) (v := .ref (q 5)) (C := RX3) (T := TX3) (N := 11) hx hb hts inX3_heldBy_X3 hown hK hP 0 rfl rfl 4 (by decide) (hts (.fieldLink RX3 24 "WordScales$Shop" "belongings" "[I") (List.mem_of_getElem? (i := 1) rfl)) (fun _ h9 => h9) rfl dX3_heldBy_19 ?_
          refine lv_iload_n hx hb dX3_heldBy_22 rfl (lv_at hl 0 rfl) ?_
          obtain ⟨v5, hs4⟩ := chk_el hs4
          refine va_iald (D := D) (f := vb) hx hb hK hP 5 0 rfl rfl v5 dX3_heldBy_23 ?_
          refine lv_ior hx hb dX3_heldBy_24 ?_
          refine lv_istore_n (lv' := [(2, .int (x4_l2 ||| (vb (x4_l3).toNatClampNeg))), (3, .int x4_l3), (0, .ref (q 0)), (1, .int p0)]) hx hb dX3_heldBy_25 rfl hl (by decide) rfl (fun ls hl => ?_)
          refine lv_iinc (v := (x4_l3 + 1)) (lv' := [(3, .int (x4_l3 + 1)), (2, .int (x4_l2 ||| (vb (x4_l3).toNatClampNeg))), (0, .ref (q 0)), (1, .int p0)]) hx hb dX3_heldBy_26 hl (k := 1) rfl (by rfl) (by decide) rfl (fun ls hl => ?_)
          refine lv_goto (tgt := 4) hx hb dX3_heldBy_29 (by decide) ?_
          obtain rfl := Option.some.inj hs4
          exact ih4 _ _ _ _ _ hw4 hP hD hS (lv_sub hl [0, 1, 2, 3] rfl)
  exact lp4 5000 _ _ _ _ _ hr1 hP hD hS (lv_sub hl [0, 1, 2, 3] rfl)
def s_X3_countBelongings_4 (vb : Nat → Int32) (x : Int32 × Int32) : Option ((Int32 × Int32) ⊕ (Int32 × Int32)) := if 4 ≤ x.2 then (some (.inr (x.1, x.2))) else (chk x.2 4 (bd (f_J6_bitCount_0f7a4 (vb (x.2).toNatClampNeg)) (fun o4 => some (.inl ((x.1 + o4), (x.2 + 1))))))
def f_X3_countBelongings (vb : Nat → Int32) : Option (Int32) := ob (wh (s_X3_countBelongings_4 vb) 5000 (0, 0)) (fun r1 => some r1.1)
theorem inX3_countBelongings_X3 : ∀ w ∈ wsX30, w ∈ wsX3_countBelongings := fun w h => List.mem_cons_of_mem _ (List.mem_append_right _ h)
theorem yd_X3_countBelongings : yX3_countBelongings.cls ≠ "java/lang/invoke/MethodHandle" ∧ yX3_countBelongings.cls ≠ "java/lang/invoke/VarHandle" ∧ (parseMethodDescriptor yX3_countBelongings.desc).map (fun d => d.parameters.length) = some 0 := by decide +kernel
abbrev rmX3_countBelongings : Room := { frames := 1, cells := 0, slots := 0, locals := 20 }
set_option maxHeartbeats 4000000 in
set_option maxRecDepth 100000 in
theorem k_X3_countBelongings (l : Launch) (D : va_G) (K : Nat → ClassId) (q : Nat → Nat) (vw : Nat → Int32) (vk : Nat → Int32) (vr : Nat → Int32) (vp : Nat → Int32) (vb : Nat → Int32) (vi : Nat → Int32) (vwc : Int32) (vl : Nat → Int32) (vg : Nat → Int32) (vo : Nat → Int32) (vsc : Int32) (out : Int32) (hf : f_X3_countBelongings vb = some out) : kI l D K .int yX3_countBelongings wsX3_countBelongings rmX3_countBelongings [.ref (q 0)] (shW K q vw vk vr vp vb vi vwc vl vg vo vsc) out (shW K q vw vk vr vp vb vi vwc vl vg vo vsc) := by
  refine kI.of (cc := cX3_countBelongings) (maxL := 3) (by decide) rfl (Nat.le_of_ble_eq_true rfl) ?_
  intro p e s m args below meth c A H0 Q ls hx hb hml hown hts hK hN hA hP hD hS hl hret
  have hown : s.vm.findClass RX3 = some m.cls := hown
  have hl : lv_has ls 3 [(0, .ref (q 0))] := hl
  generalize hH : H0 = H at hP ⊢
  have hS : va_S A H0 H [] := by rw [← hH]; exact hS
  clear hH
  unfold f_X3_countBelongings at hf
  refine lv_iconst (v := 0) hx hb dX3_countBelongings_0 (by decide) ?_
  refine lv_istore_n (lv' := [(1, .int 0), (0, .ref (q 0))]) hx hb dX3_countBelongings_1 rfl hl (by decide) rfl (fun ls hl => ?_)
  refine lv_iconst (v := 0) hx hb dX3_countBelongings_2 (by decide) ?_
  refine lv_istore_n (lv' := [(2, .int 0), (1, .int 0), (0, .ref (q 0))]) hx hb dX3_countBelongings_3 rfl hl (by decide) rfl (fun ls hl => ?_)
  obtain ⟨r1, hr1, hf⟩ := ob_el hf
  have post4 : ∀ (e4_l1 : Int32) (e4_l2 : Int32) (H : Heap) (locs : List Loc) (ls : Array Slot), (some e4_l1) = some out → va_P D vwCl (shW K q vw vk vr vp vb vi vwc vl vg vo vsc) H → va_D A (shW K q vw vk vr vp vb vi vwc vl vg vo vsc) → va_S A H0 H locs → lv_has ls 3 [(2, .int e4_l2), (1, .int e4_l1), (0, .ref (q 0))] → W p l e rmX3_countBelongings s m args below meth c H locs 0 0 Q (F0 m 27 ls []) := by
    intro e4_l1 e4_l2 H locs ls hf hP hD hS hl
    refine lv_iload_n hx hb dX3_countBelongings_27 rfl (lv_at hl 1 rfl) ?_
    obtain rfl := Option.some.inj hf
    exact hret rfl rfl rfl hP hD hS dX3_countBelongings_28
  have lp4 : ∀ (fu : Nat) (x4_l1 : Int32) (x4_l2 : Int32) (H : Heap) (locs : List Loc) (ls : Array Slot), wh (s_X3_countBelongings_4 vb) fu (x4_l1, x4_l2) = some r1 → va_P D vwCl (shW K q vw vk vr vp vb vi vwc vl vg vo vsc) H → va_D A (shW K q vw vk vr vp vb vi vwc vl vg vo vsc) → va_S A H0 H locs → lv_has ls 3 [(2, .int x4_l2), (1, .int x4_l1), (0, .ref (q 0))] → W p l e rmX3_countBelongings s m args below meth c H locs 0 0 Q (F0 m 4 ls []) := by
    intro fu
    induction fu with
    | zero => intro x4_l1 x4_l2 H locs ls hw4; cases hw4
    | succ fu ih4 =>
      intro x4_l1 x4_l2 H locs ls hw4 hP hD hS hl
      obtain ⟨o4_, hs4, hw4⟩ := wh_el hw4
      unfold s_X3_countBelongings_4 at hs4
      dsimp only at hs4
      refine lv_iload_n hx hb dX3_countBelongings_4 rfl (lv_at hl 0 rfl) ?_
      refine lv_iconst (v := 4) hx hb dX3_countBelongings_5 (by decide) ?_
      refine lv_icmp_ge (tgt := 27) hx hb dX3_countBelongings_6 (by decide) (fun c2 => ?_) (fun c2 => ?_)
      · rw [if_pos c2] at hs4
        obtain rfl := Option.some.inj hs4
        have e9 := Option.some.inj hw4
        rw [← e9] at hf
        exact post4 _ _ _ _ _ hf hP hD hS (lv_sub hl [0, 1, 2] rfl)
      · rw [if_neg c2] at hs4
        refine lv_iload_n hx hb dX3_countBelongings_9 rfl (lv_at hl 1 rfl) ?_
        refine lv_aload_n hx hb dX3_countBelongings_10 rfl (lv_at hl 2 rfl) ?_
        refine va_get (D := D) (ci := 3) (v := .ref (q 5)) (C := RX3) (T := TX3) (N := 11) hx hb hts inX3_countBelongings_X3 hown hK hP 0 rfl rfl 4 (by decide) (hts (.fieldLink RX3 24 "WordScales$Shop" "belongings" "[I") (List.mem_of_getElem? (i := 1) rfl)) (fun _ h9 => h9) rfl dX3_countBelongings_11 ?_
        refine lv_iload_n hx hb dX3_countBelongings_14 rfl (lv_at hl 0 rfl) ?_
        obtain ⟨v3, hs4⟩ := chk_el hs4
        refine va_iald (D := D) (f := vb) hx hb hK hP 5 0 rfl rfl v3 dX3_countBelongings_15 ?_
        obtain ⟨o4, ho4, hs4⟩ := bd_el hs4
        refine kc0_i (D := D) (va_runS (As := [.int (vb (x4_l2).toNatClampNeg)]) (rest := [.int x4_l1]) ⟨hx, hb, hml, hown, hts⟩ ((k_J6_bitCount_0f7a4 l D K (vb (x4_l2).toNatClampNeg) o4 ho4) H.size) (va_cwS 1 hts gX3_countBelongings_J6_bitCount_0f7a4 rfl rfl rfl yd_J6_bitCount_0f7a4 ⟨Nat.le_of_ble_eq_true rfl, Nat.le_of_ble_eq_true rfl⟩) (kPreS va_P_nil (va_D_nil (A := fun _ => True)) hK hN) rfl rfl hl.1 rfl (lv_room (Nat.le_of_ble_eq_true rfl)) dX3_countBelongings_16 ⟨Nat.le_of_ble_eq_true rfl, Nat.le_of_ble_eq_true rfl⟩) hP hS hA (fun hzo4 H locs hP hS => ?_)
        refine lv_iadd hx hb dX3_countBelongings_19 ?_
        refine lv_istore_n (lv' := [(1, .int (x4_l1 + o4)), (2, .int x4_l2), (0, .ref (q 0))]) hx hb dX3_countBelongings_20 rfl hl (by decide) rfl (fun ls hl => ?_)
        refine lv_iinc (v := (x4_l2 + 1)) (lv' := [(2, .int (x4_l2 + 1)), (1, .int (x4_l1 + o4)), (0, .ref (q 0))]) hx hb dX3_countBelongings_21 hl (k := 1) rfl (by rfl) (by decide) rfl (fun ls hl => ?_)
        refine lv_goto (tgt := 4) hx hb dX3_countBelongings_24 (by decide) ?_
        obtain rfl := Option.some.inj hs4
        exact ih4 _ _ _ _ _ hw4 hP hD hS (lv_sub hl [0, 1, 2] rfl)
  exact lp4 5000 _ _ _ _ _ hr1 hP hD hS (lv_sub hl [0, 1, 2] rfl)
def f_X3_canSayOnce (vk : Nat → Int32) (p0 : Int32) (p1 : Int32) : Option (Int32) := ob (f_X3_countKind vk p0 (0)) (fun o1 => ob (f_X3_countKind vk p0 (2)) (fun o2 => if p1 < 2 then (some 0) else (if o1 < 1 then (some 0) else (ob (f_X3_countKind vk p0 (1)) (fun o5 => if 1 ≤ o5 then (if (p1 - 2) ≤ o2 then (some 1) else (if p1 < 3 then (some 0) else (if o1 < 2 then (some 0) else (if o2 < (p1 - 3) then (some 0) else (some 1))))) else (some 0))))))
theorem yd_X3_canSayOnce : yX3_canSayOnce.cls ≠ "java/lang/invoke/MethodHandle" ∧ yX3_canSayOnce.cls ≠ "java/lang/invoke/VarHandle" ∧ (parseMethodDescriptor yX3_canSayOnce.desc).map (fun d => d.parameters.length) = some 2 := by decide +kernel
abbrev rmX3_canSayOnce : Room := { frames := 2, cells := 0, slots := 0, locals := 45 }
set_option maxHeartbeats 4000000 in
set_option maxRecDepth 100000 in
theorem k_X3_canSayOnce (l : Launch) (D : va_G) (K : Nat → ClassId) (q : Nat → Nat) (vw : Nat → Int32) (vk : Nat → Int32) (vr : Nat → Int32) (vp : Nat → Int32) (vb : Nat → Int32) (vi : Nat → Int32) (vwc : Int32) (vl : Nat → Int32) (vg : Nat → Int32) (vo : Nat → Int32) (vsc : Int32) (p0 : Int32) (p1 : Int32) (out : Int32) (hf : f_X3_canSayOnce vk p0 p1 = some out) : kI l D K .boolean yX3_canSayOnce wsX3_canSayOnce rmX3_canSayOnce [.ref (q 0), .int p0, .int p1] (shW K q vw vk vr vp vb vi vwc vl vg vo vsc) out (shW K q vw vk vr vp vb vi vwc vl vg vo vsc) := by
  refine kI.of (cc := cX3_canSayOnce) (maxL := 5) (by decide) rfl (Nat.le_of_ble_eq_true rfl) ?_
  intro p e s m args below meth c A H0 Q ls hx hb hml hown hts hK hN hA hP hD hS hl hret
  have hown : s.vm.findClass RX3 = some m.cls := hown
  have hl : lv_has ls 5 [(0, .ref (q 0)), (1, .int p0), (2, .int p1)] := hl
  generalize hH : H0 = H at hP ⊢
  have hS : va_S A H0 H [] := by rw [← hH]; exact hS
  clear hH
  unfold f_X3_canSayOnce at hf
  refine lv_aload_n hx hb dX3_canSayOnce_0 rfl (lv_at hl 0 rfl) ?_
  refine lv_iload_n hx hb dX3_canSayOnce_1 rfl (lv_at hl 1 rfl) ?_
  refine lv_iconst (v := 0) hx hb dX3_canSayOnce_2 (by decide) ?_
  obtain ⟨o1, ho1, hf⟩ := ob_el hf
  refine kcw_i (D := D) (va_runV (As := [.int p0, .int 0]) (rest := []) ⟨hx, hb, hml, hown, hts⟩ ((k_X3_countKind l D K q vw vk vr vp vb vi vwc vl vg vo vsc p0 (0) o1 ho1) H.size) (cwV 2 hts gX3_canSayOnce_X3_countKind rfl rfl rfl ⟨rfl, yd_X3_countKind⟩ ⟨Nat.le_of_ble_eq_true rfl, Nat.le_of_ble_eq_true rfl⟩) (kPreV (ci := 3) (q0 := 0) hP rfl rfl hP hD hK hN) rfl rfl hl.1 rfl (lv_room (Nat.le_of_ble_eq_true rfl)) dX3_canSayOnce_3 ⟨Nat.le_of_ble_eq_true rfl, Nat.le_of_ble_eq_true rfl⟩) hD hS hA (fun hzo1 H locs hP hD hS => ?_)
  have hP : va_P D vwCl (shW K q vw vk vr vp vb vi vwc vl vg vo vsc) H := hP
  have hD : va_D A (shW K q vw vk vr vp vb vi vwc vl vg vo vsc) := hD
  refine lv_istore_n (lv' := [(3, .int o1), (0, .ref (q 0)), (1, .int p0), (2, .int p1)]) hx hb dX3_canSayOnce_6 rfl hl (by decide) rfl (fun ls hl => ?_)
  refine lv_aload_n hx hb dX3_canSayOnce_7 rfl (lv_at hl 1 rfl) ?_
  refine lv_iload_n hx hb dX3_canSayOnce_8 rfl (lv_at hl 2 rfl) ?_
  refine lv_iconst (v := 2) hx hb dX3_canSayOnce_9 (by decide) ?_
  obtain ⟨o2, ho2, hf⟩ := ob_el hf
  refine kcw_i (D := D) (va_runV (As := [.int p0, .int 2]) (rest := []) ⟨hx, hb, hml, hown, hts⟩ ((k_X3_countKind l D K q vw vk vr vp vb vi vwc vl vg vo vsc p0 (2) o2 ho2) H.size) (cwV 2 hts gX3_canSayOnce_X3_countKind rfl rfl rfl ⟨rfl, yd_X3_countKind⟩ ⟨Nat.le_of_ble_eq_true rfl, Nat.le_of_ble_eq_true rfl⟩) (kPreV (ci := 3) (q0 := 0) hP rfl rfl hP hD hK hN) rfl rfl hl.1 rfl (lv_room (Nat.le_of_ble_eq_true rfl)) dX3_canSayOnce_10 ⟨Nat.le_of_ble_eq_true rfl, Nat.le_of_ble_eq_true rfl⟩) hD hS hA (fun hzo2 H locs hP hD hS => ?_)
  have hP : va_P D vwCl (shW K q vw vk vr vp vb vi vwc vl vg vo vsc) H := hP
  have hD : va_D A (shW K q vw vk vr vp vb vi vwc vl vg vo vsc) := hD
  refine lv_istore (lv' := [(4, .int o2), (3, .int o1), (0, .ref (q 0)), (1, .int p0), (2, .int p1)]) hx hb dX3_canSayOnce_13 hl (by decide) rfl (fun ls hl => ?_)
  refine lv_iload_n hx hb dX3_canSayOnce_15 rfl (lv_at hl 4 rfl) ?_
  refine lv_iconst (v := 2) hx hb dX3_canSayOnce_16 (by decide) ?_
  refine lv_icmp_lt (tgt := 35) hx hb dX3_canSayOnce_17 (by decide) (fun c3 => ?_) (fun c3 => ?_)
  · rw [if_pos c3] at hf
    refine lv_iconst (v := 0) hx hb dX3_canSayOnce_35 (by decide) ?_
    obtain rfl := Option.some.inj hf
    exact hret rfl rfl rfl hP hD hS dX3_canSayOnce_36
  · rw [if_neg c3] at hf
    refine lv_iload_n hx hb dX3_canSayOnce_20 rfl (lv_at hl 1 rfl) ?_
    refine lv_iconst (v := 1) hx hb dX3_canSayOnce_21 (by decide) ?_
    refine lv_icmp_lt (tgt := 35) hx hb dX3_canSayOnce_22 (by decide) (fun c4 => ?_) (fun c4 => ?_)
    · rw [if_pos c4] at hf
      refine lv_iconst (v := 0) hx hb dX3_canSayOnce_35 (by decide) ?_
      obtain rfl := Option.some.inj hf
      exact hret rfl rfl rfl hP hD hS dX3_canSayOnce_36
    · rw [if_neg c4] at hf
      refine lv_aload_n hx hb dX3_canSayOnce_25 rfl (lv_at hl 2 rfl) ?_
      refine lv_iload_n hx hb dX3_canSayOnce_26 rfl (lv_at hl 3 rfl) ?_
      refine lv_iconst (v := 1) hx hb dX3_canSayOnce_27 (by decide) ?_
      obtain ⟨o5, ho5, hf⟩ := ob_el hf
      refine kcw_i (D := D) (va_runV (As := [.int p0, .int 1]) (rest := []) ⟨hx, hb, hml, hown, hts⟩ ((k_X3_countKind l D K q vw vk vr vp vb vi vwc vl vg vo vsc p0 (1) o5 ho5) H.size) (cwV 2 hts gX3_canSayOnce_X3_countKind rfl rfl rfl ⟨rfl, yd_X3_countKind⟩ ⟨Nat.le_of_ble_eq_true rfl, Nat.le_of_ble_eq_true rfl⟩) (kPreV (ci := 3) (q0 := 0) hP rfl rfl hP hD hK hN) rfl rfl hl.1 rfl (lv_room (Nat.le_of_ble_eq_true rfl)) dX3_canSayOnce_28 ⟨Nat.le_of_ble_eq_true rfl, Nat.le_of_ble_eq_true rfl⟩) hD hS hA (fun hzo5 H locs hP hD hS => ?_)
      have hP : va_P D vwCl (shW K q vw vk vr vp vb vi vwc vl vg vo vsc) H := hP
      have hD : va_D A (shW K q vw vk vr vp vb vi vwc vl vg vo vsc) := hD
      refine lv_iconst (v := 1) hx hb dX3_canSayOnce_31 (by decide) ?_
      refine lv_icmp_ge (tgt := 37) hx hb dX3_canSayOnce_32 (by decide) (fun c6 => ?_) (fun c6 => ?_)
      · rw [if_pos c6] at hf
        refine lv_iload hx hb dX3_canSayOnce_37 (lv_at hl 0 rfl) ?_
        refine lv_iload_n hx hb dX3_canSayOnce_39 rfl (lv_at hl 4 rfl) ?_
        refine lv_iconst (v := 2) hx hb dX3_canSayOnce_40 (by decide) ?_
        refine lv_isub hx hb dX3_canSayOnce_41 ?_
        refine lv_icmp_ge (tgt := 63) hx hb dX3_canSayOnce_42 (by decide) (fun c7 => ?_) (fun c7 => ?_)
        · rw [if_pos c7] at hf
          refine lv_iconst (v := 1) hx hb dX3_canSayOnce_63 (by decide) ?_
          refine lv_goto (tgt := 68) hx hb dX3_canSayOnce_64 (by decide) ?_
          obtain rfl := Option.some.inj hf
          exact hret rfl rfl rfl hP hD hS dX3_canSayOnce_68
        · rw [if_neg c7] at hf
          refine lv_iload_n hx hb dX3_canSayOnce_45 rfl (lv_at hl 4 rfl) ?_
          refine lv_iconst (v := 3) hx hb dX3_canSayOnce_46 (by decide) ?_
          refine lv_icmp_lt (tgt := 67) hx hb dX3_canSayOnce_47 (by decide) (fun c8 => ?_) (fun c8 => ?_)
          · rw [if_pos c8] at hf
            refine lv_iconst (v := 0) hx hb dX3_canSayOnce_67 (by decide) ?_
            obtain rfl := Option.some.inj hf
            exact hret rfl rfl rfl hP hD hS dX3_canSayOnce_68
          · rw [if_neg c8] at hf
            refine lv_iload_n hx hb dX3_canSayOnce_50 rfl (lv_at hl 1 rfl) ?_
            refine lv_iconst (v := 2) hx hb dX3_canSayOnce_51 (by decide) ?_
            refine lv_icmp_lt (tgt := 67) hx hb dX3_canSayOnce_52 (by decide) (fun c9 => ?_) (fun c9 => ?_)
            · rw [if_pos c9] at hf
              refine lv_iconst (v := 0) hx hb dX3_canSayOnce_67 (by decide) ?_
              obtain rfl := Option.some.inj hf
              exact hret rfl rfl rfl hP hD hS dX3_canSayOnce_68
            · rw [if_neg c9] at hf
              refine lv_iload hx hb dX3_canSayOnce_55 (lv_at hl 0 rfl) ?_
              refine lv_iload_n hx hb dX3_canSayOnce_57 rfl (lv_at hl 4 rfl) ?_
              refine lv_iconst (v := 3) hx hb dX3_canSayOnce_58 (by decide) ?_
              refine lv_isub hx hb dX3_canSayOnce_59 ?_
              refine lv_icmp_lt (tgt := 67) hx hb dX3_canSayOnce_60 (by decide) (fun c10 => ?_) (fun c10 => ?_)
              · rw [if_pos c10] at hf
                refine lv_iconst (v := 0) hx hb dX3_canSayOnce_67 (by decide) ?_
                obtain rfl := Option.some.inj hf
                exact hret rfl rfl rfl hP hD hS dX3_canSayOnce_68
              · rw [if_neg c10] at hf
                refine lv_iconst (v := 1) hx hb dX3_canSayOnce_63 (by decide) ?_
                refine lv_goto (tgt := 68) hx hb dX3_canSayOnce_64 (by decide) ?_
                obtain rfl := Option.some.inj hf
                exact hret rfl rfl rfl hP hD hS dX3_canSayOnce_68
      · rw [if_neg c6] at hf
        refine lv_iconst (v := 0) hx hb dX3_canSayOnce_35 (by decide) ?_
        obtain rfl := Option.some.inj hf
        exact hret rfl rfl rfl hP hD hS dX3_canSayOnce_36
def s_X3_grantsAll_2 (vi : Nat → Int32) (vwc : Int32) (p0 : Int32) (x : Int32) : Option ((Int32) ⊕ ((Int32) ⊕ (Int32))) := if vwc ≤ x then (some (.inr (.inl x))) else (if 8 ≤ x then (some (.inr (.inl x))) else (chk x 8 (if ((vi (x).toNatClampNeg) &&& p0) = 0 then (some (.inr (.inr 0))) else (some (.inl (x + 1))))))
def f_X3_grantsAll (vi : Nat → Int32) (vwc : Int32) (p0 : Int32) : Option (Int32) := ob (wh (s_X3_grantsAll_2 vi vwc p0) 5000 0) (ret2 (fun r1 => some 1))
theorem inX3_grantsAll_X3 : ∀ w ∈ wsX30, w ∈ wsX3_grantsAll := fun w h => List.mem_cons_of_mem _ (List.mem_append_right _ h)
theorem yd_X3_grantsAll : yX3_grantsAll.cls ≠ "java/lang/invoke/MethodHandle" ∧ yX3_grantsAll.cls ≠ "java/lang/invoke/VarHandle" ∧ (parseMethodDescriptor yX3_grantsAll.desc).map (fun d => d.parameters.length) = some 1 := by decide +kernel
abbrev rmX3_grantsAll : Room := { frames := 0, cells := 0, slots := 0, locals := 0 }
set_option maxHeartbeats 4000000 in
set_option maxRecDepth 100000 in
theorem k_X3_grantsAll (l : Launch) (D : va_G) (K : Nat → ClassId) (q : Nat → Nat) (vw : Nat → Int32) (vk : Nat → Int32) (vr : Nat → Int32) (vp : Nat → Int32) (vb : Nat → Int32) (vi : Nat → Int32) (vwc : Int32) (vl : Nat → Int32) (vg : Nat → Int32) (vo : Nat → Int32) (vsc : Int32) (p0 : Int32) (out : Int32) (hf : f_X3_grantsAll vi vwc p0 = some out) : kI l D K .boolean yX3_grantsAll wsX3_grantsAll rmX3_grantsAll [.ref (q 0), .int p0] (shW K q vw vk vr vp vb vi vwc vl vg vo vsc) out (shW K q vw vk vr vp vb vi vwc vl vg vo vsc) := by
  refine kI.of (cc := cX3_grantsAll) (maxL := 3) (by decide) rfl (Nat.le_of_ble_eq_true rfl) ?_
  intro p e s m args below meth c A H0 Q ls hx hb hml hown hts hK hN hA hP hD hS hl hret
  have hown : s.vm.findClass RX3 = some m.cls := hown
  have hl : lv_has ls 3 [(0, .ref (q 0)), (1, .int p0)] := hl
  generalize hH : H0 = H at hP ⊢
  have hS : va_S A H0 H [] := by rw [← hH]; exact hS
  clear hH
  unfold f_X3_grantsAll at hf
  refine lv_iconst (v := 0) hx hb dX3_grantsAll_0 (by decide) ?_
  refine lv_istore_n (lv' := [(2, .int 0), (0, .ref (q 0)), (1, .int p0)]) hx hb dX3_grantsAll_1 rfl hl (by decide) rfl (fun ls hl => ?_)
  obtain ⟨r1, hr1, hf⟩ := ob_el hf
  have post2 : ∀ (e2_l2 : Int32) (H : Heap) (locs : List Loc) (ls : Array Slot), (some 1) = some out → va_P D vwCl (shW K q vw vk vr vp vb vi vwc vl vg vo vsc) H → va_D A (shW K q vw vk vr vp vb vi vwc vl vg vo vsc) → va_S A H0 H locs → lv_has ls 3 [(2, .int e2_l2), (0, .ref (q 0)), (1, .int p0)] → W p l e rmX3_grantsAll s m args below meth c H locs 0 0 Q (F0 m 35 ls []) := by
    intro e2_l2 H locs ls hf hP hD hS hl
    refine lv_iconst (v := 1) hx hb dX3_grantsAll_35 (by decide) ?_
    obtain rfl := Option.some.inj hf
    exact hret rfl rfl rfl hP hD hS dX3_grantsAll_36
  have lp2 : ∀ (fu : Nat) (x2_l2 : Int32) (H : Heap) (locs : List Loc) (ls : Array Slot), wh (s_X3_grantsAll_2 vi vwc p0) fu x2_l2 = some r1 → va_P D vwCl (shW K q vw vk vr vp vb vi vwc vl vg vo vsc) H → va_D A (shW K q vw vk vr vp vb vi vwc vl vg vo vsc) → va_S A H0 H locs → lv_has ls 3 [(2, .int x2_l2), (0, .ref (q 0)), (1, .int p0)] → W p l e rmX3_grantsAll s m args below meth c H locs 0 0 Q (F0 m 2 ls []) := by
    intro fu
    induction fu with
    | zero => intro x2_l2 H locs ls hw2; cases hw2
    | succ fu ih2 =>
      intro x2_l2 H locs ls hw2 hP hD hS hl
      obtain ⟨o2_, hs2, hw2⟩ := wh_el hw2
      unfold s_X3_grantsAll_2 at hs2
      refine lv_iload_n hx hb dX3_grantsAll_2 rfl (lv_at hl 0 rfl) ?_
      refine lv_aload_n hx hb dX3_grantsAll_3 rfl (lv_at hl 1 rfl) ?_
      refine va_get (D := D) (ci := 3) (v := .int vwc) (C := RX3) (T := TX3) (N := 11) hx hb hts inX3_grantsAll_X3 hown hK hP 0 rfl rfl 6 (by decide) (hts (.fieldLink RX3 30 "WordScales$Shop" "wishCount" "I") (List.mem_of_getElem? (i := 1) rfl)) (fun _ h9 => h9) rfl dX3_grantsAll_4 ?_
      refine lv_icmp_ge (tgt := 35) hx hb dX3_grantsAll_7 (by decide) (fun c2 => ?_) (fun c2 => ?_)
      · rw [if_pos c2] at hs2
        obtain rfl := Option.some.inj hs2
        have e9 := Option.some.inj hw2
        rw [← e9] at hf
        exact post2 _ _ _ _ hf hP hD hS (lv_sub hl [0, 1, 2] rfl)
      · rw [if_neg c2] at hs2
        refine lv_iload_n hx hb dX3_grantsAll_10 rfl (lv_at hl 0 rfl) ?_
        refine lv_bipush (v := 8) hx hb dX3_grantsAll_11 (by decide) ?_
        refine lv_icmp_ge (tgt := 35) hx hb dX3_grantsAll_13 (by decide) (fun c3 => ?_) (fun c3 => ?_)
        · rw [if_pos c3] at hs2
          obtain rfl := Option.some.inj hs2
          have e9 := Option.some.inj hw2
          rw [← e9] at hf
          exact post2 _ _ _ _ hf hP hD hS (lv_sub hl [0, 1, 2] rfl)
        · rw [if_neg c3] at hs2
          refine lv_aload_n hx hb dX3_grantsAll_16 rfl (lv_at hl 1 rfl) ?_
          refine va_get (D := D) (ci := 3) (v := .ref (q 6)) (C := RX3) (T := TX3) (N := 11) hx hb hts inX3_grantsAll_X3 hown hK hP 0 rfl rfl 5 (by decide) (hts (.fieldLink RX3 27 "WordScales$Shop" "wishes" "[I") (List.mem_of_getElem? (i := 2) rfl)) (fun _ h9 => h9) rfl dX3_grantsAll_17 ?_
          refine lv_iload_n hx hb dX3_grantsAll_20 rfl (lv_at hl 0 rfl) ?_
          obtain ⟨v4, hs2⟩ := chk_el hs2
          refine va_iald (D := D) (f := vi) hx hb hK hP 6 0 rfl rfl v4 dX3_grantsAll_21 ?_
          refine lv_iload_n hx hb dX3_grantsAll_22 rfl (lv_at hl 2 rfl) ?_
          refine lv_iand hx hb dX3_grantsAll_23 ?_
          refine lv_if_ne (tgt := 29) hx hb dX3_grantsAll_24 (by decide) (fun c5 => ?_) (fun c5 => ?_)
          · rw [if_neg c5] at hs2
            refine lv_iinc (v := (x2_l2 + 1)) (lv' := [(2, .int (x2_l2 + 1)), (0, .ref (q 0)), (1, .int p0)]) hx hb dX3_grantsAll_29 hl (k := 0) rfl (by rfl) (by decide) rfl (fun ls hl => ?_)
            refine lv_goto (tgt := 2) hx hb dX3_grantsAll_32 (by decide) ?_
            obtain rfl := Option.some.inj hs2
            exact ih2 _ _ _ _ hw2 hP hD hS (lv_sub hl [0, 1, 2] rfl)
          · rw [if_pos c5] at hs2
            refine lv_iconst (v := 0) hx hb dX3_grantsAll_27 (by decide) ?_
            obtain rfl := Option.some.inj hs2
            have e9 := Option.some.inj hw2
            rw [← e9] at hf
            obtain rfl := Option.some.inj (show some 0 = some out from hf)
            exact hret rfl rfl rfl hP hD hS dX3_grantsAll_28
  exact lp2 5000 _ _ _ _ hr1 hP hD hS (lv_sub hl [0, 1, 2] rfl)
def s_X3_suspects_6 (vl : Nat → Int32) (vg : Nat → Int32) (vo : Nat → Int32) (vsc : Int32) (x : Int32 × Int32) : Option ((Int32 × Int32) ⊕ (Int32 × Int32)) := if vsc ≤ x.2 then (some (.inr (x.1, x.2))) else (if 6 ≤ x.2 then (some (.inr (x.1, x.2))) else (chk x.2 6 (if (vo (x.2).toNatClampNeg) = 0 then (some (.inl ((x.1 &&& (vl (x.2).toNatClampNeg)), (x.2 + 1)))) else (if (vo (x.2).toNatClampNeg) = 1 then (some (.inl ((x.1 &&& (vg (x.2).toNatClampNeg)), (x.2 + 1)))) else (some (.inl ((x.1 &&& (((vl (x.2).toNatClampNeg) ||| (vg (x.2).toNatClampNeg)) ^^^ (-1))), (x.2 + 1))))))))
def f_X3_suspects (vl : Nat → Int32) (vg : Nat → Int32) (vo : Nat → Int32) (vsc : Int32) : Option (Int32) := ob (wh (s_X3_suspects_6 vl vg vo vsc) 5000 (4095, 0)) (fun r1 => some r1.1)
theorem inX3_suspects_X3 : ∀ w ∈ wsX30, w ∈ wsX3_suspects := fun w h => List.mem_cons_of_mem _ (List.mem_append_right _ h)
theorem yd_X3_suspects : yX3_suspects.cls ≠ "java/lang/invoke/MethodHandle" ∧ yX3_suspects.cls ≠ "java/lang/invoke/VarHandle" ∧ (parseMethodDescriptor yX3_suspects.desc).map (fun d => d.parameters.length) = some 0 := by decide +kernel
abbrev rmX3_suspects : Room := { frames := 0, cells := 0, slots := 0, locals := 0 }
set_option maxHeartbeats 4000000 in
set_option maxRecDepth 100000 in
theorem k_X3_suspects (l : Launch) (D : va_G) (K : Nat → ClassId) (q : Nat → Nat) (vw : Nat → Int32) (vk : Nat → Int32) (vr : Nat → Int32) (vp : Nat → Int32) (vb : Nat → Int32) (vi : Nat → Int32) (vwc : Int32) (vl : Nat → Int32) (vg : Nat → Int32) (vo : Nat → Int32) (vsc : Int32) (out : Int32) (hf : f_X3_suspects vl vg vo vsc = some out) : kI l D K .int yX3_suspects wsX3_suspects rmX3_suspects [.ref (q 0)] (shW K q vw vk vr vp vb vi vwc vl vg vo vsc) out (shW K q vw vk vr vp vb vi vwc vl vg vo vsc) := by
  refine kI.of (cc := cX3_suspects) (maxL := 3) (by decide) rfl (Nat.le_of_ble_eq_true rfl) ?_
  intro p e s m args below meth c A H0 Q ls hx hb hml hown hts hK hN hA hP hD hS hl hret
  have hown : s.vm.findClass RX3 = some m.cls := hown
  have hl : lv_has ls 3 [(0, .ref (q 0))] := hl
  generalize hH : H0 = H at hP ⊢
  have hS : va_S A H0 H [] := by rw [← hH]; exact hS
  clear hH
  unfold f_X3_suspects at hf
  refine lv_sipush (v := 4095) hx hb dX3_suspects_0 (by decide) ?_
  refine lv_istore_n (lv' := [(1, .int 4095), (0, .ref (q 0))]) hx hb dX3_suspects_3 rfl hl (by decide) rfl (fun ls hl => ?_)
  refine lv_iconst (v := 0) hx hb dX3_suspects_4 (by decide) ?_
  refine lv_istore_n (lv' := [(2, .int 0), (1, .int 4095), (0, .ref (q 0))]) hx hb dX3_suspects_5 rfl hl (by decide) rfl (fun ls hl => ?_)
  obtain ⟨r1, hr1, hf⟩ := ob_el hf
  have post6 : ∀ (e6_l1 : Int32) (e6_l2 : Int32) (H : Heap) (locs : List Loc) (ls : Array Slot), (some e6_l1) = some out → va_P D vwCl (shW K q vw vk vr vp vb vi vwc vl vg vo vsc) H → va_D A (shW K q vw vk vr vp vb vi vwc vl vg vo vsc) → va_S A H0 H locs → lv_has ls 3 [(2, .int e6_l2), (1, .int e6_l1), (0, .ref (q 0))] → W p l e rmX3_suspects s m args below meth c H locs 0 0 Q (F0 m 87 ls []) := by
    intro e6_l1 e6_l2 H locs ls hf hP hD hS hl
    refine lv_iload_n hx hb dX3_suspects_87 rfl (lv_at hl 1 rfl) ?_
    obtain rfl := Option.some.inj hf
    exact hret rfl rfl rfl hP hD hS dX3_suspects_88
  have lp6 : ∀ (fu : Nat) (x6_l1 : Int32) (x6_l2 : Int32) (H : Heap) (locs : List Loc) (ls : Array Slot), wh (s_X3_suspects_6 vl vg vo vsc) fu (x6_l1, x6_l2) = some r1 → va_P D vwCl (shW K q vw vk vr vp vb vi vwc vl vg vo vsc) H → va_D A (shW K q vw vk vr vp vb vi vwc vl vg vo vsc) → va_S A H0 H locs → lv_has ls 3 [(2, .int x6_l2), (1, .int x6_l1), (0, .ref (q 0))] → W p l e rmX3_suspects s m args below meth c H locs 0 0 Q (F0 m 6 ls []) := by
    intro fu
    induction fu with
    | zero => intro x6_l1 x6_l2 H locs ls hw6; cases hw6
    | succ fu ih6 =>
      intro x6_l1 x6_l2 H locs ls hw6 hP hD hS hl
      obtain ⟨o6_, hs6, hw6⟩ := wh_el hw6
      unfold s_X3_suspects_6 at hs6
      dsimp only at hs6
      refine lv_iload_n hx hb dX3_suspects_6 rfl (lv_at hl 0 rfl) ?_
      refine lv_aload_n hx hb dX3_suspects_7 rfl (lv_at hl 2 rfl) ?_
      refine va_get (D := D) (ci := 3) (v := .int vsc) (C := RX3) (T := TX3) (N := 11) hx hb hts inX3_suspects_X3 hown hK hP 0 rfl rfl 10 (by decide) (hts (.fieldLink RX3 43 "WordScales$Shop" "sightCount" "I") (List.mem_of_getElem? (i := 1) rfl)) (fun _ h9 => h9) rfl dX3_suspects_8 ?_
      refine lv_icmp_ge (tgt := 87) hx hb dX3_suspects_11 (by decide) (fun c2 => ?_) (fun c2 => ?_)
      · rw [if_pos c2] at hs6
        obtain rfl := Option.some.inj hs6
        have e9 := Option.some.inj hw6
        rw [← e9] at hf
        exact post6 _ _ _ _ _ hf hP hD hS (lv_sub hl [0, 1, 2] rfl)
      · rw [if_neg c2] at hs6
        refine lv_iload_n hx hb dX3_suspects_14 rfl (lv_at hl 0 rfl) ?_
        refine lv_bipush (v := 6) hx hb dX3_suspects_15 (by decide) ?_
        refine lv_icmp_ge (tgt := 87) hx hb dX3_suspects_17 (by decide) (fun c3 => ?_) (fun c3 => ?_)
        · rw [if_pos c3] at hs6
          obtain rfl := Option.some.inj hs6
          have e9 := Option.some.inj hw6
          rw [← e9] at hf
          exact post6 _ _ _ _ _ hf hP hD hS (lv_sub hl [0, 1, 2] rfl)
        · rw [if_neg c3] at hs6
          refine lv_aload_n hx hb dX3_suspects_20 rfl (lv_at hl 2 rfl) ?_
          refine va_get (D := D) (ci := 3) (v := .ref (q 9)) (C := RX3) (T := TX3) (N := 11) hx hb hts inX3_suspects_X3 hown hK hP 0 rfl rfl 9 (by decide) (hts (.fieldLink RX3 40 "WordScales$Shop" "outcomes" "[I") (List.mem_of_getElem? (i := 2) rfl)) (fun _ h9 => h9) rfl dX3_suspects_21 ?_
          refine lv_iload_n hx hb dX3_suspects_24 rfl (lv_at hl 0 rfl) ?_
          obtain ⟨v4, hs6⟩ := chk_el hs6
          refine va_iald (D := D) (f := vo) hx hb hK hP 9 0 rfl rfl v4 dX3_suspects_25 ?_
          refine lv_if_ne (tgt := 41) hx hb dX3_suspects_26 (by decide) (fun c5 => ?_) (fun c5 => ?_)
          · rw [if_neg c5] at hs6
            refine lv_aload_n hx hb dX3_suspects_41 rfl (lv_at hl 2 rfl) ?_
            refine va_get (D := D) (ci := 3) (v := .ref (q 9)) (C := RX3) (T := TX3) (N := 11) hx hb hts inX3_suspects_X3 hown hK hP 0 rfl rfl 9 (by decide) (hts (.fieldLink RX3 40 "WordScales$Shop" "outcomes" "[I") (List.mem_of_getElem? (i := 2) rfl)) (fun _ h9 => h9) rfl dX3_suspects_42 ?_
            refine lv_iload_n hx hb dX3_suspects_45 rfl (lv_at hl 0 rfl) ?_
            refine va_iald (D := D) (f := vo) hx hb hK hP 9 0 rfl rfl v4 dX3_suspects_46 ?_
            refine lv_iconst (v := 1) hx hb dX3_suspects_47 (by decide) ?_
            refine lv_icmp_ne (tgt := 63) hx hb dX3_suspects_48 (by decide) (fun c6 => ?_) (fun c6 => ?_)
            · rw [if_neg c6] at hs6
              refine lv_iload_n hx hb dX3_suspects_63 rfl (lv_at hl 1 rfl) ?_
              refine lv_aload_n hx hb dX3_suspects_64 rfl (lv_at hl 2 rfl) ?_
              refine va_get (D := D) (ci := 3) (v := .ref (q 7)) (C := RX3) (T := TX3) (N := 11) hx hb hts inX3_suspects_X3 hown hK hP 0 rfl rfl 7 (by decide) (hts (.fieldLink RX3 34 "WordScales$Shop" "lefts" "[I") (List.mem_of_getElem? (i := 3) rfl)) (fun _ h9 => h9) rfl dX3_suspects_65 ?_
              refine lv_iload_n hx hb dX3_suspects_68 rfl (lv_at hl 0 rfl) ?_
              refine va_iald (D := D) (f := vl) hx hb hK hP 7 0 rfl rfl v4 dX3_suspects_69 ?_
              refine lv_aload_n hx hb dX3_suspects_70 rfl (lv_at hl 2 rfl) ?_
              refine va_get (D := D) (ci := 3) (v := .ref (q 8)) (C := RX3) (T := TX3) (N := 11) hx hb hts inX3_suspects_X3 hown hK hP 0 rfl rfl 8 (by decide) (hts (.fieldLink RX3 37 "WordScales$Shop" "rights" "[I") (List.mem_of_getElem? (i := 4) rfl)) (fun _ h9 => h9) rfl dX3_suspects_71 ?_
              refine lv_iload_n hx hb dX3_suspects_74 rfl (lv_at hl 0 rfl) ?_
              refine va_iald (D := D) (f := vg) hx hb hK hP 8 0 rfl rfl v4 dX3_suspects_75 ?_
              refine lv_ior hx hb dX3_suspects_76 ?_
              refine lv_iconst (v := (-1)) hx hb dX3_suspects_77 (by decide) ?_
              refine lv_ixor hx hb dX3_suspects_78 ?_
              refine lv_iand hx hb dX3_suspects_79 ?_
              refine lv_istore_n (lv' := [(1, .int (x6_l1 &&& (((vl (x6_l2).toNatClampNeg) ||| (vg (x6_l2).toNatClampNeg)) ^^^ (-1)))), (2, .int x6_l2), (0, .ref (q 0))]) hx hb dX3_suspects_80 rfl hl (by decide) rfl (fun ls hl => ?_)
              refine lv_iinc (v := (x6_l2 + 1)) (lv' := [(2, .int (x6_l2 + 1)), (1, .int (x6_l1 &&& (((vl (x6_l2).toNatClampNeg) ||| (vg (x6_l2).toNatClampNeg)) ^^^ (-1)))), (0, .ref (q 0))]) hx hb dX3_suspects_81 hl (k := 1) rfl (by rfl) (by decide) rfl (fun ls hl => ?_)
              refine lv_goto (tgt := 6) hx hb dX3_suspects_84 (by decide) ?_
              obtain rfl := Option.some.inj hs6
              exact ih6 _ _ _ _ _ hw6 hP hD hS (lv_sub hl [0, 1, 2] rfl)
            · rw [if_pos c6] at hs6
              refine lv_iload_n hx hb dX3_suspects_51 rfl (lv_at hl 1 rfl) ?_
              refine lv_aload_n hx hb dX3_suspects_52 rfl (lv_at hl 2 rfl) ?_
              refine va_get (D := D) (ci := 3) (v := .ref (q 8)) (C := RX3) (T := TX3) (N := 11) hx hb hts inX3_suspects_X3 hown hK hP 0 rfl rfl 8 (by decide) (hts (.fieldLink RX3 37 "WordScales$Shop" "rights" "[I") (List.mem_of_getElem? (i := 4) rfl)) (fun _ h9 => h9) rfl dX3_suspects_53 ?_
              refine lv_iload_n hx hb dX3_suspects_56 rfl (lv_at hl 0 rfl) ?_
              refine va_iald (D := D) (f := vg) hx hb hK hP 8 0 rfl rfl v4 dX3_suspects_57 ?_
              refine lv_iand hx hb dX3_suspects_58 ?_
              refine lv_istore_n (lv' := [(1, .int (x6_l1 &&& (vg (x6_l2).toNatClampNeg))), (2, .int x6_l2), (0, .ref (q 0))]) hx hb dX3_suspects_59 rfl hl (by decide) rfl (fun ls hl => ?_)
              refine lv_goto (tgt := 81) hx hb dX3_suspects_60 (by decide) ?_
              refine lv_iinc (v := (x6_l2 + 1)) (lv' := [(2, .int (x6_l2 + 1)), (1, .int (x6_l1 &&& (vg (x6_l2).toNatClampNeg))), (0, .ref (q 0))]) hx hb dX3_suspects_81 hl (k := 1) rfl (by rfl) (by decide) rfl (fun ls hl => ?_)
              refine lv_goto (tgt := 6) hx hb dX3_suspects_84 (by decide) ?_
              obtain rfl := Option.some.inj hs6
              exact ih6 _ _ _ _ _ hw6 hP hD hS (lv_sub hl [0, 1, 2] rfl)
          · rw [if_pos c5] at hs6
            refine lv_iload_n hx hb dX3_suspects_29 rfl (lv_at hl 1 rfl) ?_
            refine lv_aload_n hx hb dX3_suspects_30 rfl (lv_at hl 2 rfl) ?_
            refine va_get (D := D) (ci := 3) (v := .ref (q 7)) (C := RX3) (T := TX3) (N := 11) hx hb hts inX3_suspects_X3 hown hK hP 0 rfl rfl 7 (by decide) (hts (.fieldLink RX3 34 "WordScales$Shop" "lefts" "[I") (List.mem_of_getElem? (i := 3) rfl)) (fun _ h9 => h9) rfl dX3_suspects_31 ?_
            refine lv_iload_n hx hb dX3_suspects_34 rfl (lv_at hl 0 rfl) ?_
            refine va_iald (D := D) (f := vl) hx hb hK hP 7 0 rfl rfl v4 dX3_suspects_35 ?_
            refine lv_iand hx hb dX3_suspects_36 ?_
            refine lv_istore_n (lv' := [(1, .int (x6_l1 &&& (vl (x6_l2).toNatClampNeg))), (2, .int x6_l2), (0, .ref (q 0))]) hx hb dX3_suspects_37 rfl hl (by decide) rfl (fun ls hl => ?_)
            refine lv_goto (tgt := 81) hx hb dX3_suspects_38 (by decide) ?_
            refine lv_iinc (v := (x6_l2 + 1)) (lv' := [(2, .int (x6_l2 + 1)), (1, .int (x6_l1 &&& (vl (x6_l2).toNatClampNeg))), (0, .ref (q 0))]) hx hb dX3_suspects_81 hl (k := 1) rfl (by rfl) (by decide) rfl (fun ls hl => ?_)
            refine lv_goto (tgt := 6) hx hb dX3_suspects_84 (by decide) ?_
            obtain rfl := Option.some.inj hs6
            exact ih6 _ _ _ _ _ hw6 hP hD hS (lv_sub hl [0, 1, 2] rfl)
  exact lp6 5000 _ _ _ _ _ hr1 hP hD hS (lv_sub hl [0, 1, 2] rfl)
def f_X3_buy (vw : Nat → Int32) (vp : Nat → Int32) (vb : Nat → Int32) (p0 : Int32) (p1 : Int32) : Option (Int32 × (Nat → Int32) × (Nat → Int32)) := chk p0 4 (bd (f_X4_isIn p1 (vb (p0).toNatClampNeg)) (fun o2 => if o2 = 0 then (chk p1 12 (if (vw (p1).toNatClampNeg) ≤ (vp (p0).toNatClampNeg) then (some (0, (upd vp (p0).toNatClampNeg ((vp (p0).toNatClampNeg) - (vw (p1).toNatClampNeg))), (upd vb (p0).toNatClampNeg ((vb (p0).toNatClampNeg) ||| (1 <<< (p1 &&& 31)))))) else (some (3, vp, vb)))) else (some (1, vp, vb))))
theorem inX3_buy_X3 : ∀ w ∈ wsX30, w ∈ wsX3_buy := fun w h => List.mem_cons_of_mem _ (List.mem_append_right _ h)
theorem yd_X3_buy : yX3_buy.cls ≠ "java/lang/invoke/MethodHandle" ∧ yX3_buy.cls ≠ "java/lang/invoke/VarHandle" ∧ (parseMethodDescriptor yX3_buy.desc).map (fun d => d.parameters.length) = some 2 := by decide +kernel
abbrev rmX3_buy : Room := { frames := 1, cells := 0, slots := 0, locals := 21 }
set_option maxHeartbeats 4000000 in
set_option maxRecDepth 100000 in
theorem k_X3_buy (l : Launch) (D : va_G) (K : Nat → ClassId) (q : Nat → Nat) (vw : Nat → Int32) (vk : Nat → Int32) (vr : Nat → Int32) (vp : Nat → Int32) (vb : Nat → Int32) (vi : Nat → Int32) (vwc : Int32) (vl : Nat → Int32) (vg : Nat → Int32) (vo : Nat → Int32) (vsc : Int32) (p0 : Int32) (p1 : Int32) (out : Int32 × (Nat → Int32) × (Nat → Int32)) (hf : f_X3_buy vw vp vb p0 p1 = some out) : kI l D K .int yX3_buy wsX3_buy rmX3_buy [.ref (q 0), .int p0, .int p1] (shW K q vw vk vr vp vb vi vwc vl vg vo vsc) out.1 (shW K q vw vk vr out.2.1 out.2.2 vi vwc vl vg vo vsc) := by
  refine kI.of (cc := cX3_buy) (maxL := 3) (by decide) rfl (Nat.le_of_ble_eq_true rfl) ?_
  intro p e s m args below meth c A H0 Q ls hx hb hml hown hts hK hN hA hP hD hS hl hret
  have hown : s.vm.findClass RX3 = some m.cls := hown
  have hl : lv_has ls 3 [(0, .ref (q 0)), (1, .int p0), (2, .int p1)] := hl
  generalize hH : H0 = H at hP ⊢
  have hS : va_S A H0 H [] := by rw [← hH]; exact hS
  clear hH
  unfold f_X3_buy at hf
  refine lv_iload_n hx hb dX3_buy_0 rfl (lv_at hl 2 rfl) ?_
  refine lv_aload_n hx hb dX3_buy_1 rfl (lv_at hl 0 rfl) ?_
  refine va_get (D := D) (ci := 3) (v := .ref (q 5)) (C := RX3) (T := TX3) (N := 11) hx hb hts inX3_buy_X3 hown hK hP 0 rfl rfl 4 (by decide) (hts (.fieldLink RX3 24 "WordScales$Shop" "belongings" "[I") (List.mem_of_getElem? (i := 1) rfl)) (fun _ h9 => h9) rfl dX3_buy_2 ?_
  refine lv_iload_n hx hb dX3_buy_5 rfl (lv_at hl 1 rfl) ?_
  obtain ⟨v1, hf⟩ := chk_el hf
  refine va_iald (D := D) (f := vb) hx hb hK hP 5 0 rfl rfl v1 dX3_buy_6 ?_
  obtain ⟨o2, ho2, hf⟩ := bd_el hf
  refine kc0_i (D := D) (va_runSN (As := [.int p1, .int (vb (p0).toNatClampNeg)]) (rest := []) ⟨hx, hb, hml, hown, hts⟩ ((k_X4_isIn l D K p1 (vb (p0).toNatClampNeg) o2 ho2) H.size) ⟨va_cnB 2 hts gX3_buy_X4_isIn_n54 rfl rfl rfl (hN _ (List.mem_of_getElem? (i := 34) rfl)) (hts (.initialized RX4) (List.mem_of_getElem? (i := 5) rfl)) yd_X4_isIn ⟨Nat.le_of_ble_eq_true rfl, Nat.le_of_ble_eq_true rfl⟩, (hts (.static yX4_isIn) (List.mem_of_getElem? (i := 4) rfl)), trivial⟩ (kPreS va_P_nil (va_D_nil (A := fun _ => True)) hK hN) rfl rfl hl.1 rfl (lv_room (Nat.le_of_ble_eq_true rfl)) dX3_buy_7 ⟨Nat.le_of_ble_eq_true rfl, Nat.le_of_ble_eq_true rfl⟩) hP hS hA (fun hzo2 H locs hP hS => ?_)
  refine lv_if_eq (tgt := 15) hx hb dX3_buy_10 (by decide) (fun c3 => ?_) (fun c3 => ?_)
  · rw [if_pos c3] at hf
    refine lv_aload_n hx hb dX3_buy_15 rfl (lv_at hl 0 rfl) ?_
    refine va_get (D := D) (ci := 3) (v := .ref (q 4)) (C := RX3) (T := TX3) (N := 11) hx hb hts inX3_buy_X3 hown hK hP 0 rfl rfl 3 (by decide) (hts (.fieldLink RX3 21 "WordScales$Shop" "purses" "[I") (List.mem_of_getElem? (i := 2) rfl)) (fun _ h9 => h9) rfl dX3_buy_16 ?_
    refine lv_iload_n hx hb dX3_buy_19 rfl (lv_at hl 1 rfl) ?_
    refine va_iald (D := D) (f := vp) hx hb hK hP 4 0 rfl rfl v1 dX3_buy_20 ?_
    refine lv_aload_n hx hb dX3_buy_21 rfl (lv_at hl 0 rfl) ?_
    refine va_get (D := D) (ci := 3) (v := .ref (q 1)) (C := RX3) (T := TX3) (N := 11) hx hb hts inX3_buy_X3 hown hK hP 0 rfl rfl 0 (by decide) (hts (.fieldLink RX3 9 "WordScales$Shop" "weights" "[I") (List.mem_of_getElem? (i := 3) rfl)) (fun _ h9 => h9) rfl dX3_buy_22 ?_
    refine lv_iload_n hx hb dX3_buy_25 rfl (lv_at hl 2 rfl) ?_
    obtain ⟨v4, hf⟩ := chk_el hf
    refine va_iald (D := D) (f := vw) hx hb hK hP 1 0 rfl rfl v4 dX3_buy_26 ?_
    refine lv_icmp_ge (tgt := 32) hx hb dX3_buy_27 (by decide) (fun c5 => ?_) (fun c5 => ?_)
    · rw [if_pos c5] at hf
      refine lv_aload_n hx hb dX3_buy_32 rfl (lv_at hl 0 rfl) ?_
      refine va_get (D := D) (ci := 3) (v := .ref (q 4)) (C := RX3) (T := TX3) (N := 11) hx hb hts inX3_buy_X3 hown hK hP 0 rfl rfl 3 (by decide) (hts (.fieldLink RX3 21 "WordScales$Shop" "purses" "[I") (List.mem_of_getElem? (i := 2) rfl)) (fun _ h9 => h9) rfl dX3_buy_33 ?_
      refine lv_iload_n hx hb dX3_buy_36 rfl (lv_at hl 1 rfl) ?_
      refine lv_dup2_11 hx hb dX3_buy_37 rfl rfl ?_
      refine va_iald (D := D) (f := vp) hx hb hK hP 4 0 rfl rfl v1 dX3_buy_38 ?_
      refine lv_aload_n hx hb dX3_buy_39 rfl (lv_at hl 0 rfl) ?_
      refine va_get (D := D) (ci := 3) (v := .ref (q 1)) (C := RX3) (T := TX3) (N := 11) hx hb hts inX3_buy_X3 hown hK hP 0 rfl rfl 0 (by decide) (hts (.fieldLink RX3 9 "WordScales$Shop" "weights" "[I") (List.mem_of_getElem? (i := 3) rfl)) (fun _ h9 => h9) rfl dX3_buy_40 ?_
      refine lv_iload_n hx hb dX3_buy_43 rfl (lv_at hl 2 rfl) ?_
      refine va_iald (D := D) (f := vw) hx hb hK hP 1 0 rfl rfl v4 dX3_buy_44 ?_
      refine lv_isub hx hb dX3_buy_45 ?_
      refine va_iast (D := D) (f := vp) hx hb hK hP hD hS 4 0 rfl rfl v1 dX3_buy_46 (fun H locs hP hD hS => ?_)
      have hP : va_P D vwCl (shW K q vw vk vr (upd vp (p0).toNatClampNeg ((vp (p0).toNatClampNeg) - (vw (p1).toNatClampNeg))) vb vi vwc vl vg vo vsc) H := hP
      have hD : va_D A (shW K q vw vk vr (upd vp (p0).toNatClampNeg ((vp (p0).toNatClampNeg) - (vw (p1).toNatClampNeg))) vb vi vwc vl vg vo vsc) := hD
      refine lv_aload_n hx hb dX3_buy_47 rfl (lv_at hl 0 rfl) ?_
      refine va_get (D := D) (ci := 3) (v := .ref (q 5)) (C := RX3) (T := TX3) (N := 11) hx hb hts inX3_buy_X3 hown hK hP 0 rfl rfl 4 (by decide) (hts (.fieldLink RX3 24 "WordScales$Shop" "belongings" "[I") (List.mem_of_getElem? (i := 1) rfl)) (fun _ h9 => h9) rfl dX3_buy_48 ?_
      refine lv_iload_n hx hb dX3_buy_51 rfl (lv_at hl 1 rfl) ?_
      refine lv_dup2_11 hx hb dX3_buy_52 rfl rfl ?_
      refine va_iald (D := D) (f := vb) hx hb hK hP 5 0 rfl rfl v1 dX3_buy_53 ?_
      refine lv_iconst (v := 1) hx hb dX3_buy_54 (by decide) ?_
      refine lv_iload_n hx hb dX3_buy_55 rfl (lv_at hl 2 rfl) ?_
      refine lv_ishl hx hb dX3_buy_56 ?_
      refine lv_ior hx hb dX3_buy_57 ?_
      refine va_iast (D := D) (f := vb) hx hb hK hP hD hS 5 0 rfl rfl v1 dX3_buy_58 (fun H locs hP hD hS => ?_)
      have hP : va_P D vwCl (shW K q vw vk vr (upd vp (p0).toNatClampNeg ((vp (p0).toNatClampNeg) - (vw (p1).toNatClampNeg))) (upd vb (p0).toNatClampNeg ((vb (p0).toNatClampNeg) ||| (1 <<< (p1 &&& 31)))) vi vwc vl vg vo vsc) H := hP
      have hD : va_D A (shW K q vw vk vr (upd vp (p0).toNatClampNeg ((vp (p0).toNatClampNeg) - (vw (p1).toNatClampNeg))) (upd vb (p0).toNatClampNeg ((vb (p0).toNatClampNeg) ||| (1 <<< (p1 &&& 31)))) vi vwc vl vg vo vsc) := hD
      refine lv_iconst (v := 0) hx hb dX3_buy_59 (by decide) ?_
      obtain rfl := Option.some.inj hf
      exact hret rfl rfl rfl hP hD hS dX3_buy_60
    · rw [if_neg c5] at hf
      refine lv_iconst (v := 3) hx hb dX3_buy_30 (by decide) ?_
      obtain rfl := Option.some.inj hf
      exact hret rfl rfl rfl hP hD hS dX3_buy_31
  · rw [if_neg c3] at hf
    refine lv_iconst (v := 1) hx hb dX3_buy_13 (by decide) ?_
    obtain rfl := Option.some.inj hf
    exact hret rfl rfl rfl hP hD hS dX3_buy_14
def f_X3_handIn (vw : Nat → Int32) (vp : Nat → Int32) (vb : Nat → Int32) (p0 : Int32) (p1 : Int32) : Option (Int32 × (Nat → Int32) × (Nat → Int32)) := chk p0 4 (bd (f_X4_isIn p1 (vb (p0).toNatClampNeg)) (fun o2 => if o2 = 0 then (some (2, vp, vb)) else (chk p1 12 (if ((vp (p0).toNatClampNeg) + ((vw (p1).toNatClampNeg) / 2)) ≤ 999 then (some (0, (upd vp (p0).toNatClampNeg ((vp (p0).toNatClampNeg) + ((vw (p1).toNatClampNeg) / 2))), (upd vb (p0).toNatClampNeg ((vb (p0).toNatClampNeg) &&& ((1 <<< (p1 &&& 31)) ^^^ (-1)))))) else (some (4, vp, vb))))))
theorem inX3_handIn_X3 : ∀ w ∈ wsX30, w ∈ wsX3_handIn := fun w h => List.mem_cons_of_mem _ (List.mem_append_right _ h)
theorem yd_X3_handIn : yX3_handIn.cls ≠ "java/lang/invoke/MethodHandle" ∧ yX3_handIn.cls ≠ "java/lang/invoke/VarHandle" ∧ (parseMethodDescriptor yX3_handIn.desc).map (fun d => d.parameters.length) = some 2 := by decide +kernel
abbrev rmX3_handIn : Room := { frames := 1, cells := 0, slots := 0, locals := 21 }
set_option maxHeartbeats 4000000 in
set_option maxRecDepth 100000 in
theorem k_X3_handIn (l : Launch) (D : va_G) (K : Nat → ClassId) (q : Nat → Nat) (vw : Nat → Int32) (vk : Nat → Int32) (vr : Nat → Int32) (vp : Nat → Int32) (vb : Nat → Int32) (vi : Nat → Int32) (vwc : Int32) (vl : Nat → Int32) (vg : Nat → Int32) (vo : Nat → Int32) (vsc : Int32) (p0 : Int32) (p1 : Int32) (out : Int32 × (Nat → Int32) × (Nat → Int32)) (hf : f_X3_handIn vw vp vb p0 p1 = some out) : kI l D K .int yX3_handIn wsX3_handIn rmX3_handIn [.ref (q 0), .int p0, .int p1] (shW K q vw vk vr vp vb vi vwc vl vg vo vsc) out.1 (shW K q vw vk vr out.2.1 out.2.2 vi vwc vl vg vo vsc) := by
  refine kI.of (cc := cX3_handIn) (maxL := 4) (by decide) rfl (Nat.le_of_ble_eq_true rfl) ?_
  intro p e s m args below meth c A H0 Q ls hx hb hml hown hts hK hN hA hP hD hS hl hret
  have hown : s.vm.findClass RX3 = some m.cls := hown
  have hl : lv_has ls 4 [(0, .ref (q 0)), (1, .int p0), (2, .int p1)] := hl
  generalize hH : H0 = H at hP ⊢
  have hS : va_S A H0 H [] := by rw [← hH]; exact hS
  clear hH
  unfold f_X3_handIn at hf
  refine lv_iload_n hx hb dX3_handIn_0 rfl (lv_at hl 2 rfl) ?_
  refine lv_aload_n hx hb dX3_handIn_1 rfl (lv_at hl 0 rfl) ?_
  refine va_get (D := D) (ci := 3) (v := .ref (q 5)) (C := RX3) (T := TX3) (N := 11) hx hb hts inX3_handIn_X3 hown hK hP 0 rfl rfl 4 (by decide) (hts (.fieldLink RX3 24 "WordScales$Shop" "belongings" "[I") (List.mem_of_getElem? (i := 1) rfl)) (fun _ h9 => h9) rfl dX3_handIn_2 ?_
  refine lv_iload_n hx hb dX3_handIn_5 rfl (lv_at hl 1 rfl) ?_
  obtain ⟨v1, hf⟩ := chk_el hf
  refine va_iald (D := D) (f := vb) hx hb hK hP 5 0 rfl rfl v1 dX3_handIn_6 ?_
  obtain ⟨o2, ho2, hf⟩ := bd_el hf
  refine kc0_i (D := D) (va_runSN (As := [.int p1, .int (vb (p0).toNatClampNeg)]) (rest := []) ⟨hx, hb, hml, hown, hts⟩ ((k_X4_isIn l D K p1 (vb (p0).toNatClampNeg) o2 ho2) H.size) ⟨va_cnB 2 hts gX3_handIn_X4_isIn_n54 rfl rfl rfl (hN _ (List.mem_of_getElem? (i := 34) rfl)) (hts (.initialized RX4) (List.mem_of_getElem? (i := 5) rfl)) yd_X4_isIn ⟨Nat.le_of_ble_eq_true rfl, Nat.le_of_ble_eq_true rfl⟩, (hts (.static yX4_isIn) (List.mem_of_getElem? (i := 4) rfl)), trivial⟩ (kPreS va_P_nil (va_D_nil (A := fun _ => True)) hK hN) rfl rfl hl.1 rfl (lv_room (Nat.le_of_ble_eq_true rfl)) dX3_handIn_7 ⟨Nat.le_of_ble_eq_true rfl, Nat.le_of_ble_eq_true rfl⟩) hP hS hA (fun hzo2 H locs hP hS => ?_)
  refine lv_if_ne (tgt := 15) hx hb dX3_handIn_10 (by decide) (fun c3 => ?_) (fun c3 => ?_)
  · rw [if_neg c3] at hf
    refine lv_aload_n hx hb dX3_handIn_15 rfl (lv_at hl 0 rfl) ?_
    refine va_get (D := D) (ci := 3) (v := .ref (q 4)) (C := RX3) (T := TX3) (N := 11) hx hb hts inX3_handIn_X3 hown hK hP 0 rfl rfl 3 (by decide) (hts (.fieldLink RX3 21 "WordScales$Shop" "purses" "[I") (List.mem_of_getElem? (i := 2) rfl)) (fun _ h9 => h9) rfl dX3_handIn_16 ?_
    refine lv_iload_n hx hb dX3_handIn_19 rfl (lv_at hl 1 rfl) ?_
    refine va_iald (D := D) (f := vp) hx hb hK hP 4 0 rfl rfl v1 dX3_handIn_20 ?_
    refine lv_aload_n hx hb dX3_handIn_21 rfl (lv_at hl 0 rfl) ?_
    refine va_get (D := D) (ci := 3) (v := .ref (q 1)) (C := RX3) (T := TX3) (N := 11) hx hb hts inX3_handIn_X3 hown hK hP 0 rfl rfl 0 (by decide) (hts (.fieldLink RX3 9 "WordScales$Shop" "weights" "[I") (List.mem_of_getElem? (i := 3) rfl)) (fun _ h9 => h9) rfl dX3_handIn_22 ?_
    refine lv_iload_n hx hb dX3_handIn_25 rfl (lv_at hl 2 rfl) ?_
    obtain ⟨v4, hf⟩ := chk_el hf
    refine va_iald (D := D) (f := vw) hx hb hK hP 1 0 rfl rfl v4 dX3_handIn_26 ?_
    refine lv_iconst (v := 2) hx hb dX3_handIn_27 (by decide) ?_
    refine lv_idiv hx hb dX3_handIn_28 (by decide) ?_
    refine lv_iadd hx hb dX3_handIn_29 ?_
    refine lv_istore_n (lv' := [(3, .int ((vp (p0).toNatClampNeg) + ((vw (p1).toNatClampNeg) / 2))), (0, .ref (q 0)), (1, .int p0), (2, .int p1)]) hx hb dX3_handIn_30 rfl hl (by decide) rfl (fun ls hl => ?_)
    refine lv_iload_n hx hb dX3_handIn_31 rfl (lv_at hl 0 rfl) ?_
    refine lv_sipush (v := 999) hx hb dX3_handIn_32 (by decide) ?_
    refine lv_icmp_le (tgt := 40) hx hb dX3_handIn_35 (by decide) (fun c5 => ?_) (fun c5 => ?_)
    · rw [if_pos c5] at hf
      refine lv_aload_n hx hb dX3_handIn_40 rfl (lv_at hl 1 rfl) ?_
      refine va_get (D := D) (ci := 3) (v := .ref (q 4)) (C := RX3) (T := TX3) (N := 11) hx hb hts inX3_handIn_X3 hown hK hP 0 rfl rfl 3 (by decide) (hts (.fieldLink RX3 21 "WordScales$Shop" "purses" "[I") (List.mem_of_getElem? (i := 2) rfl)) (fun _ h9 => h9) rfl dX3_handIn_41 ?_
      refine lv_iload_n hx hb dX3_handIn_44 rfl (lv_at hl 2 rfl) ?_
      refine lv_iload_n hx hb dX3_handIn_45 rfl (lv_at hl 0 rfl) ?_
      refine va_iast (D := D) (f := vp) hx hb hK hP hD hS 4 0 rfl rfl v1 dX3_handIn_46 (fun H locs hP hD hS => ?_)
      have hP : va_P D vwCl (shW K q vw vk vr (upd vp (p0).toNatClampNeg ((vp (p0).toNatClampNeg) + ((vw (p1).toNatClampNeg) / 2))) vb vi vwc vl vg vo vsc) H := hP
      have hD : va_D A (shW K q vw vk vr (upd vp (p0).toNatClampNeg ((vp (p0).toNatClampNeg) + ((vw (p1).toNatClampNeg) / 2))) vb vi vwc vl vg vo vsc) := hD
      refine lv_aload_n hx hb dX3_handIn_47 rfl (lv_at hl 1 rfl) ?_
      refine va_get (D := D) (ci := 3) (v := .ref (q 5)) (C := RX3) (T := TX3) (N := 11) hx hb hts inX3_handIn_X3 hown hK hP 0 rfl rfl 4 (by decide) (hts (.fieldLink RX3 24 "WordScales$Shop" "belongings" "[I") (List.mem_of_getElem? (i := 1) rfl)) (fun _ h9 => h9) rfl dX3_handIn_48 ?_
      refine lv_iload_n hx hb dX3_handIn_51 rfl (lv_at hl 2 rfl) ?_
      refine lv_dup2_11 hx hb dX3_handIn_52 rfl rfl ?_
      refine va_iald (D := D) (f := vb) hx hb hK hP 5 0 rfl rfl v1 dX3_handIn_53 ?_
      refine lv_iconst (v := 1) hx hb dX3_handIn_54 (by decide) ?_
      refine lv_iload_n hx hb dX3_handIn_55 rfl (lv_at hl 3 rfl) ?_
      refine lv_ishl hx hb dX3_handIn_56 ?_
      refine lv_iconst (v := (-1)) hx hb dX3_handIn_57 (by decide) ?_
      refine lv_ixor hx hb dX3_handIn_58 ?_
      refine lv_iand hx hb dX3_handIn_59 ?_
      refine va_iast (D := D) (f := vb) hx hb hK hP hD hS 5 0 rfl rfl v1 dX3_handIn_60 (fun H locs hP hD hS => ?_)
      have hP : va_P D vwCl (shW K q vw vk vr (upd vp (p0).toNatClampNeg ((vp (p0).toNatClampNeg) + ((vw (p1).toNatClampNeg) / 2))) (upd vb (p0).toNatClampNeg ((vb (p0).toNatClampNeg) &&& ((1 <<< (p1 &&& 31)) ^^^ (-1)))) vi vwc vl vg vo vsc) H := hP
      have hD : va_D A (shW K q vw vk vr (upd vp (p0).toNatClampNeg ((vp (p0).toNatClampNeg) + ((vw (p1).toNatClampNeg) / 2))) (upd vb (p0).toNatClampNeg ((vb (p0).toNatClampNeg) &&& ((1 <<< (p1 &&& 31)) ^^^ (-1)))) vi vwc vl vg vo vsc) := hD
      refine lv_iconst (v := 0) hx hb dX3_handIn_61 (by decide) ?_
      obtain rfl := Option.some.inj hf
      exact hret rfl rfl rfl hP hD hS dX3_handIn_62
    · rw [if_neg c5] at hf
      refine lv_iconst (v := 4) hx hb dX3_handIn_38 (by decide) ?_
      obtain rfl := Option.some.inj hf
      exact hret rfl rfl rfl hP hD hS dX3_handIn_39
  · rw [if_pos c3] at hf
    refine lv_iconst (v := 2) hx hb dX3_handIn_13 (by decide) ?_
    obtain rfl := Option.some.inj hf
    exact hret rfl rfl rfl hP hD hS dX3_handIn_14
def f_X3_speak (vw : Nat → Int32) (vb : Nat → Int32) (p0 : Int32) (p1 : Int32) : Option (Int32 × (Nat → Int32)) := chk p0 4 (bd (f_X4_isIn p1 (vb (p0).toNatClampNeg)) (fun o2 => if o2 = 0 then (some (2, vw)) else (chk p1 12 (some (0, (upd vw (p1).toNatClampNeg (if 0 < ((vw (p1).toNatClampNeg) - 1) then ((vw (p1).toNatClampNeg) - 1) else 0)))))))
theorem inX3_speak_X3 : ∀ w ∈ wsX30, w ∈ wsX3_speak := fun w h => List.mem_cons_of_mem _ (List.mem_append_right _ h)
theorem yd_X3_speak : yX3_speak.cls ≠ "java/lang/invoke/MethodHandle" ∧ yX3_speak.cls ≠ "java/lang/invoke/VarHandle" ∧ (parseMethodDescriptor yX3_speak.desc).map (fun d => d.parameters.length) = some 2 := by decide +kernel
abbrev rmX3_speak : Room := { frames := 1, cells := 0, slots := 0, locals := 25 }
set_option maxHeartbeats 4000000 in
set_option maxRecDepth 100000 in
theorem k_X3_speak (l : Launch) (D : va_G) (K : Nat → ClassId) (q : Nat → Nat) (vw : Nat → Int32) (vk : Nat → Int32) (vr : Nat → Int32) (vp : Nat → Int32) (vb : Nat → Int32) (vi : Nat → Int32) (vwc : Int32) (vl : Nat → Int32) (vg : Nat → Int32) (vo : Nat → Int32) (vsc : Int32) (p0 : Int32) (p1 : Int32) (out : Int32 × (Nat → Int32)) (hf : f_X3_speak vw vb p0 p1 = some out) : kI l D K .int yX3_speak wsX3_speak rmX3_speak [.ref (q 0), .int p0, .int p1] (shW K q vw vk vr vp vb vi vwc vl vg vo vsc) out.1 (shW K q out.2 vk vr vp vb vi vwc vl vg vo vsc) := by
  refine kI.of (cc := cX3_speak) (maxL := 3) (by decide) rfl (Nat.le_of_ble_eq_true rfl) ?_
  intro p e s m args below meth c A H0 Q ls hx hb hml hown hts hK hN hA hP hD hS hl hret
  have hown : s.vm.findClass RX3 = some m.cls := hown
  have hl : lv_has ls 3 [(0, .ref (q 0)), (1, .int p0), (2, .int p1)] := hl
  generalize hH : H0 = H at hP ⊢
  have hS : va_S A H0 H [] := by rw [← hH]; exact hS
  clear hH
  unfold f_X3_speak at hf
  refine lv_iload_n hx hb dX3_speak_0 rfl (lv_at hl 2 rfl) ?_
  refine lv_aload_n hx hb dX3_speak_1 rfl (lv_at hl 0 rfl) ?_
  refine va_get (D := D) (ci := 3) (v := .ref (q 5)) (C := RX3) (T := TX3) (N := 11) hx hb hts inX3_speak_X3 hown hK hP 0 rfl rfl 4 (by decide) (hts (.fieldLink RX3 24 "WordScales$Shop" "belongings" "[I") (List.mem_of_getElem? (i := 1) rfl)) (fun _ h9 => h9) rfl dX3_speak_2 ?_
  refine lv_iload_n hx hb dX3_speak_5 rfl (lv_at hl 1 rfl) ?_
  obtain ⟨v1, hf⟩ := chk_el hf
  refine va_iald (D := D) (f := vb) hx hb hK hP 5 0 rfl rfl v1 dX3_speak_6 ?_
  obtain ⟨o2, ho2, hf⟩ := bd_el hf
  refine kc0_i (D := D) (va_runSN (As := [.int p1, .int (vb (p0).toNatClampNeg)]) (rest := []) ⟨hx, hb, hml, hown, hts⟩ ((k_X4_isIn l D K p1 (vb (p0).toNatClampNeg) o2 ho2) H.size) ⟨va_cnB 2 hts gX3_speak_X4_isIn_n54 rfl rfl rfl (hN _ (List.mem_of_getElem? (i := 34) rfl)) (hts (.initialized RX4) (List.mem_of_getElem? (i := 8) rfl)) yd_X4_isIn ⟨Nat.le_of_ble_eq_true rfl, Nat.le_of_ble_eq_true rfl⟩, (hts (.static yX4_isIn) (List.mem_of_getElem? (i := 7) rfl)), trivial⟩ (kPreS va_P_nil (va_D_nil (A := fun _ => True)) hK hN) rfl rfl hl.1 rfl (lv_room (Nat.le_of_ble_eq_true rfl)) dX3_speak_7 ⟨Nat.le_of_ble_eq_true rfl, Nat.le_of_ble_eq_true rfl⟩) hP hS hA (fun hzo2 H locs hP hS => ?_)
  refine lv_if_ne (tgt := 15) hx hb dX3_speak_10 (by decide) (fun c3 => ?_) (fun c3 => ?_)
  · rw [if_neg c3] at hf
    refine lv_aload_n hx hb dX3_speak_15 rfl (lv_at hl 0 rfl) ?_
    refine va_get (D := D) (ci := 3) (v := .ref (q 1)) (C := RX3) (T := TX3) (N := 11) hx hb hts inX3_speak_X3 hown hK hP 0 rfl rfl 0 (by decide) (hts (.fieldLink RX3 9 "WordScales$Shop" "weights" "[I") (List.mem_of_getElem? (i := 2) rfl)) (fun _ h9 => h9) rfl dX3_speak_16 ?_
    refine lv_iload_n hx hb dX3_speak_19 rfl (lv_at hl 2 rfl) ?_
    refine lv_iconst (v := 0) hx hb dX3_speak_20 (by decide) ?_
    refine lv_aload_n hx hb dX3_speak_21 rfl (lv_at hl 0 rfl) ?_
    refine va_get (D := D) (ci := 3) (v := .ref (q 1)) (C := RX3) (T := TX3) (N := 11) hx hb hts inX3_speak_X3 hown hK hP 0 rfl rfl 0 (by decide) (hts (.fieldLink RX3 9 "WordScales$Shop" "weights" "[I") (List.mem_of_getElem? (i := 2) rfl)) (fun _ h9 => h9) rfl dX3_speak_22 ?_
    refine lv_iload_n hx hb dX3_speak_25 rfl (lv_at hl 2 rfl) ?_
    obtain ⟨v4, hf⟩ := chk_el hf
    refine va_iald (D := D) (f := vw) hx hb hK hP 1 0 rfl rfl v4 dX3_speak_26 ?_
    refine lv_iconst (v := 1) hx hb dX3_speak_27 (by decide) ?_
    refine lv_isub hx hb dX3_speak_28 ?_
    refine va_mmax hx hb (hml.trans hl.1.symm) hown (hts (.methodLink RX3 62 Lib.Math.max.name) (List.mem_of_getElem? (i := 3) rfl)) (hts (.static Lib.Math.max.name) (List.mem_of_getElem? (i := 4) rfl)) (hts (.initialized "java/lang/Math") (List.mem_of_getElem? (i := 5) rfl)) (hts (.code Lib.Math.max.name Lib.Math.max.code 2 (some .int)) (List.mem_of_getElem? (i := 6) rfl)) (Nat.le_of_ble_eq_true rfl) (Nat.le_of_ble_eq_true rfl) (Nat.le_of_ble_eq_true rfl) (Nat.le_of_ble_eq_true rfl) dX3_speak_29 ?_
    refine va_iast (D := D) (f := vw) hx hb hK hP hD hS 1 0 rfl rfl v4 dX3_speak_32 (fun H locs hP hD hS => ?_)
    have hP : va_P D vwCl (shW K q (upd vw (p1).toNatClampNeg (if 0 < ((vw (p1).toNatClampNeg) - 1) then ((vw (p1).toNatClampNeg) - 1) else 0)) vk vr vp vb vi vwc vl vg vo vsc) H := hP
    have hD : va_D A (shW K q (upd vw (p1).toNatClampNeg (if 0 < ((vw (p1).toNatClampNeg) - 1) then ((vw (p1).toNatClampNeg) - 1) else 0)) vk vr vp vb vi vwc vl vg vo vsc) := hD
    refine lv_iconst (v := 0) hx hb dX3_speak_33 (by decide) ?_
    obtain rfl := Option.some.inj hf
    exact hret rfl rfl rfl hP hD hS dX3_speak_34
  · rw [if_pos c3] at hf
    refine lv_iconst (v := 2) hx hb dX3_speak_13 (by decide) ?_
    obtain rfl := Option.some.inj hf
    exact hret rfl rfl rfl hP hD hS dX3_speak_14
def f_X3_give (vb : Nat → Int32) (p0 : Int32) (p1 : Int32) (p2 : Int32) : Option (Int32 × (Nat → Int32)) := chk p2 4 (bd (f_X4_isIn p1 (vb (p2).toNatClampNeg)) (fun o2 => if o2 = 0 then (chk p0 4 (bd (f_X4_isIn p1 (vb (p0).toNatClampNeg)) (fun o5 => if o5 = 0 then (some (2, vb)) else (some (0, (upd (upd vb (p0).toNatClampNeg ((vb (p0).toNatClampNeg) &&& ((1 <<< (p1 &&& 31)) ^^^ (-1)))) (p2).toNatClampNeg (((upd vb (p0).toNatClampNeg ((vb (p0).toNatClampNeg) &&& ((1 <<< (p1 &&& 31)) ^^^ (-1)))) (p2).toNatClampNeg) ||| (1 <<< (p1 &&& 31))))))))) else (some (1, vb))))
theorem inX3_give_X3 : ∀ w ∈ wsX30, w ∈ wsX3_give := fun w h => List.mem_cons_of_mem _ (List.mem_append_right _ h)
theorem yd_X3_give : yX3_give.cls ≠ "java/lang/invoke/MethodHandle" ∧ yX3_give.cls ≠ "java/lang/invoke/VarHandle" ∧ (parseMethodDescriptor yX3_give.desc).map (fun d => d.parameters.length) = some 3 := by decide +kernel
abbrev rmX3_give : Room := { frames := 1, cells := 0, slots := 0, locals := 21 }
set_option maxHeartbeats 4000000 in
set_option maxRecDepth 100000 in
theorem k_X3_give (l : Launch) (D : va_G) (K : Nat → ClassId) (q : Nat → Nat) (vw : Nat → Int32) (vk : Nat → Int32) (vr : Nat → Int32) (vp : Nat → Int32) (vb : Nat → Int32) (vi : Nat → Int32) (vwc : Int32) (vl : Nat → Int32) (vg : Nat → Int32) (vo : Nat → Int32) (vsc : Int32) (p0 : Int32) (p1 : Int32) (p2 : Int32) (out : Int32 × (Nat → Int32)) (hf : f_X3_give vb p0 p1 p2 = some out) : kI l D K .int yX3_give wsX3_give rmX3_give [.ref (q 0), .int p0, .int p1, .int p2] (shW K q vw vk vr vp vb vi vwc vl vg vo vsc) out.1 (shW K q vw vk vr vp out.2 vi vwc vl vg vo vsc) := by
  refine kI.of (cc := cX3_give) (maxL := 4) (by decide) rfl (Nat.le_of_ble_eq_true rfl) ?_
  intro p e s m args below meth c A H0 Q ls hx hb hml hown hts hK hN hA hP hD hS hl hret
  have hown : s.vm.findClass RX3 = some m.cls := hown
  have hl : lv_has ls 4 [(0, .ref (q 0)), (1, .int p0), (2, .int p1), (3, .int p2)] := hl
  generalize hH : H0 = H at hP ⊢
  have hS : va_S A H0 H [] := by rw [← hH]; exact hS
  clear hH
  unfold f_X3_give at hf
  refine lv_iload_n hx hb dX3_give_0 rfl (lv_at hl 2 rfl) ?_
  refine lv_aload_n hx hb dX3_give_1 rfl (lv_at hl 0 rfl) ?_
  refine va_get (D := D) (ci := 3) (v := .ref (q 5)) (C := RX3) (T := TX3) (N := 11) hx hb hts inX3_give_X3 hown hK hP 0 rfl rfl 4 (by decide) (hts (.fieldLink RX3 24 "WordScales$Shop" "belongings" "[I") (List.mem_of_getElem? (i := 1) rfl)) (fun _ h9 => h9) rfl dX3_give_2 ?_
  refine lv_iload_n hx hb dX3_give_5 rfl (lv_at hl 3 rfl) ?_
  obtain ⟨v1, hf⟩ := chk_el hf
  refine va_iald (D := D) (f := vb) hx hb hK hP 5 0 rfl rfl v1 dX3_give_6 ?_
  obtain ⟨o2, ho2, hf⟩ := bd_el hf
  refine kc0_i (D := D) (va_runSN (As := [.int p1, .int (vb (p2).toNatClampNeg)]) (rest := []) ⟨hx, hb, hml, hown, hts⟩ ((k_X4_isIn l D K p1 (vb (p2).toNatClampNeg) o2 ho2) H.size) ⟨va_cnB 2 hts gX3_give_X4_isIn_n54 rfl rfl rfl (hN _ (List.mem_of_getElem? (i := 34) rfl)) (hts (.initialized RX4) (List.mem_of_getElem? (i := 3) rfl)) yd_X4_isIn ⟨Nat.le_of_ble_eq_true rfl, Nat.le_of_ble_eq_true rfl⟩, (hts (.static yX4_isIn) (List.mem_of_getElem? (i := 2) rfl)), trivial⟩ (kPreS va_P_nil (va_D_nil (A := fun _ => True)) hK hN) rfl rfl hl.1 rfl (lv_room (Nat.le_of_ble_eq_true rfl)) dX3_give_7 ⟨Nat.le_of_ble_eq_true rfl, Nat.le_of_ble_eq_true rfl⟩) hP hS hA (fun hzo2 H locs hP hS => ?_)
  refine lv_if_eq (tgt := 15) hx hb dX3_give_10 (by decide) (fun c3 => ?_) (fun c3 => ?_)
  · rw [if_pos c3] at hf
    refine lv_iload_n hx hb dX3_give_15 rfl (lv_at hl 2 rfl) ?_
    refine lv_aload_n hx hb dX3_give_16 rfl (lv_at hl 0 rfl) ?_
    refine va_get (D := D) (ci := 3) (v := .ref (q 5)) (C := RX3) (T := TX3) (N := 11) hx hb hts inX3_give_X3 hown hK hP 0 rfl rfl 4 (by decide) (hts (.fieldLink RX3 24 "WordScales$Shop" "belongings" "[I") (List.mem_of_getElem? (i := 1) rfl)) (fun _ h9 => h9) rfl dX3_give_17 ?_
    refine lv_iload_n hx hb dX3_give_20 rfl (lv_at hl 1 rfl) ?_
    obtain ⟨v4, hf⟩ := chk_el hf
    refine va_iald (D := D) (f := vb) hx hb hK hP 5 0 rfl rfl v4 dX3_give_21 ?_
    obtain ⟨o5, ho5, hf⟩ := bd_el hf
    refine kc0_i (D := D) (va_runSN (As := [.int p1, .int (vb (p0).toNatClampNeg)]) (rest := []) ⟨hx, hb, hml, hown, hts⟩ ((k_X4_isIn l D K p1 (vb (p0).toNatClampNeg) o5 ho5) H.size) ⟨va_cnB 2 hts gX3_give_X4_isIn_n54 rfl rfl rfl (hN _ (List.mem_of_getElem? (i := 34) rfl)) (hts (.initialized RX4) (List.mem_of_getElem? (i := 3) rfl)) yd_X4_isIn ⟨Nat.le_of_ble_eq_true rfl, Nat.le_of_ble_eq_true rfl⟩, (hts (.static yX4_isIn) (List.mem_of_getElem? (i := 2) rfl)), trivial⟩ (kPreS va_P_nil (va_D_nil (A := fun _ => True)) hK hN) rfl rfl hl.1 rfl (lv_room (Nat.le_of_ble_eq_true rfl)) dX3_give_22 ⟨Nat.le_of_ble_eq_true rfl, Nat.le_of_ble_eq_true rfl⟩) hP hS hA (fun hzo5 H locs hP hS => ?_)
    refine lv_if_ne (tgt := 30) hx hb dX3_give_25 (by decide) (fun c6 => ?_) (fun c6 => ?_)
    · rw [if_neg c6] at hf
      refine lv_aload_n hx hb dX3_give_30 rfl (lv_at hl 0 rfl) ?_
      refine va_get (D := D) (ci := 3) (v := .ref (q 5)) (C := RX3) (T := TX3) (N := 11) hx hb hts inX3_give_X3 hown hK hP 0 rfl rfl 4 (by decide) (hts (.fieldLink RX3 24 "WordScales$Shop" "belongings" "[I") (List.mem_of_getElem? (i := 1) rfl)) (fun _ h9 => h9) rfl dX3_give_31 ?_
      refine lv_iload_n hx hb dX3_give_34 rfl (lv_at hl 1 rfl) ?_
      refine lv_dup2_11 hx hb dX3_give_35 rfl rfl ?_
      refine va_iald (D := D) (f := vb) hx hb hK hP 5 0 rfl rfl v4 dX3_give_36 ?_
      refine lv_iconst (v := 1) hx hb dX3_give_37 (by decide) ?_
      refine lv_iload_n hx hb dX3_give_38 rfl (lv_at hl 2 rfl) ?_
      refine lv_ishl hx hb dX3_give_39 ?_
      refine lv_iconst (v := (-1)) hx hb dX3_give_40 (by decide) ?_
      refine lv_ixor hx hb dX3_give_41 ?_
      refine lv_iand hx hb dX3_give_42 ?_
      refine va_iast (D := D) (f := vb) hx hb hK hP hD hS 5 0 rfl rfl v4 dX3_give_43 (fun H locs hP hD hS => ?_)
      have hP : va_P D vwCl (shW K q vw vk vr vp (upd vb (p0).toNatClampNeg ((vb (p0).toNatClampNeg) &&& ((1 <<< (p1 &&& 31)) ^^^ (-1)))) vi vwc vl vg vo vsc) H := hP
      have hD : va_D A (shW K q vw vk vr vp (upd vb (p0).toNatClampNeg ((vb (p0).toNatClampNeg) &&& ((1 <<< (p1 &&& 31)) ^^^ (-1)))) vi vwc vl vg vo vsc) := hD
      refine lv_aload_n hx hb dX3_give_44 rfl (lv_at hl 0 rfl) ?_
      refine va_get (D := D) (ci := 3) (v := .ref (q 5)) (C := RX3) (T := TX3) (N := 11) hx hb hts inX3_give_X3 hown hK hP 0 rfl rfl 4 (by decide) (hts (.fieldLink RX3 24 "WordScales$Shop" "belongings" "[I") (List.mem_of_getElem? (i := 1) rfl)) (fun _ h9 => h9) rfl dX3_give_45 ?_
      refine lv_iload_n hx hb dX3_give_48 rfl (lv_at hl 3 rfl) ?_
      refine lv_dup2_11 hx hb dX3_give_49 rfl rfl ?_
      refine va_iald (D := D) (f := (upd vb (p0).toNatClampNeg ((vb (p0).toNatClampNeg) &&& ((1 <<< (p1 &&& 31)) ^^^ (-1))))) hx hb hK hP 5 0 rfl rfl v1 dX3_give_50 ?_
      refine lv_iconst (v := 1) hx hb dX3_give_51 (by decide) ?_
      refine lv_iload_n hx hb dX3_give_52 rfl (lv_at hl 2 rfl) ?_
      refine lv_ishl hx hb dX3_give_53 ?_
      refine lv_ior hx hb dX3_give_54 ?_
      refine va_iast (D := D) (f := (upd vb (p0).toNatClampNeg ((vb (p0).toNatClampNeg) &&& ((1 <<< (p1 &&& 31)) ^^^ (-1))))) hx hb hK hP hD hS 5 0 rfl rfl v1 dX3_give_55 (fun H locs hP hD hS => ?_)
      have hP : va_P D vwCl (shW K q vw vk vr vp (upd (upd vb (p0).toNatClampNeg ((vb (p0).toNatClampNeg) &&& ((1 <<< (p1 &&& 31)) ^^^ (-1)))) (p2).toNatClampNeg (((upd vb (p0).toNatClampNeg ((vb (p0).toNatClampNeg) &&& ((1 <<< (p1 &&& 31)) ^^^ (-1)))) (p2).toNatClampNeg) ||| (1 <<< (p1 &&& 31)))) vi vwc vl vg vo vsc) H := hP
      have hD : va_D A (shW K q vw vk vr vp (upd (upd vb (p0).toNatClampNeg ((vb (p0).toNatClampNeg) &&& ((1 <<< (p1 &&& 31)) ^^^ (-1)))) (p2).toNatClampNeg (((upd vb (p0).toNatClampNeg ((vb (p0).toNatClampNeg) &&& ((1 <<< (p1 &&& 31)) ^^^ (-1)))) (p2).toNatClampNeg) ||| (1 <<< (p1 &&& 31)))) vi vwc vl vg vo vsc) := hD
      refine lv_iconst (v := 0) hx hb dX3_give_56 (by decide) ?_
      obtain rfl := Option.some.inj hf
      exact hret rfl rfl rfl hP hD hS dX3_give_57
    · rw [if_pos c6] at hf
      refine lv_iconst (v := 2) hx hb dX3_give_28 (by decide) ?_
      obtain rfl := Option.some.inj hf
      exact hret rfl rfl rfl hP hD hS dX3_give_29
  · rw [if_neg c3] at hf
    refine lv_iconst (v := 1) hx hb dX3_give_13 (by decide) ?_
    obtain rfl := Option.some.inj hf
    exact hret rfl rfl rfl hP hD hS dX3_give_14
def f_X3_perform (vw : Nat → Int32) (vp : Nat → Int32) (vb : Nat → Int32) (p0 : Int32) (p1 : Int32) (p2 : Int32) (p3 : Int32) : Option (Int32 × (Nat → Int32) × (Nat → Int32) × (Nat → Int32)) := bd (f_X4_isSpeaker p1) (fun o1 => if o1 = 0 then (some (2, vw, vp, vb)) else (bd (f_X4_isSpeaker p3) (fun o3 => if o3 = 0 then (some (2, vw, vp, vb)) else (bd (f_X4_isWord p2) (fun o5 => if o5 = 0 then (some (2, vw, vp, vb)) else (if p0 = 0 then (ob (f_X3_buy vw vp vb p1 p2) (fun o10 => some (o10.1, vw, o10.2.1, o10.2.2))) else (if p0 = 1 then (ob (f_X3_handIn vw vp vb p1 p2) (fun o11 => some (o11.1, vw, o11.2.1, o11.2.2))) else (if p0 = 2 then (ob (f_X3_speak vw vb p1 p2) (fun o12 => some (o12.1, o12.2, vp, vb))) else (ob (f_X3_give vb p1 p2 p3) (fun o13 => some (o13.1, vw, vp, o13.2)))))))))))
theorem yd_X3_perform : yX3_perform.cls ≠ "java/lang/invoke/MethodHandle" ∧ yX3_perform.cls ≠ "java/lang/invoke/VarHandle" ∧ (parseMethodDescriptor yX3_perform.desc).map (fun d => d.parameters.length) = some 4 := by decide +kernel
abbrev rmX3_perform : Room := { frames := 2, cells := 0, slots := 0, locals := 47 }
set_option maxHeartbeats 4000000 in
set_option maxRecDepth 100000 in
theorem k_X3_perform (l : Launch) (D : va_G) (K : Nat → ClassId) (q : Nat → Nat) (vw : Nat → Int32) (vk : Nat → Int32) (vr : Nat → Int32) (vp : Nat → Int32) (vb : Nat → Int32) (vi : Nat → Int32) (vwc : Int32) (vl : Nat → Int32) (vg : Nat → Int32) (vo : Nat → Int32) (vsc : Int32) (p0 : Int32) (p1 : Int32) (p2 : Int32) (p3 : Int32) (out : Int32 × (Nat → Int32) × (Nat → Int32) × (Nat → Int32)) (hf : f_X3_perform vw vp vb p0 p1 p2 p3 = some out) : kI l D K .int yX3_perform wsX3_perform rmX3_perform [.ref (q 0), .int p0, .int p1, .int p2, .int p3] (shW K q vw vk vr vp vb vi vwc vl vg vo vsc) out.1 (shW K q out.2.1 vk vr out.2.2.1 out.2.2.2 vi vwc vl vg vo vsc) := by
  refine kI.of (cc := cX3_perform) (maxL := 5) (by decide) rfl (Nat.le_of_ble_eq_true rfl) ?_
  intro p e s m args below meth c A H0 Q ls hx hb hml hown hts hK hN hA hP hD hS hl hret
  have hown : s.vm.findClass RX3 = some m.cls := hown
  have hl : lv_has ls 5 [(0, .ref (q 0)), (1, .int p0), (2, .int p1), (3, .int p2), (4, .int p3)] := hl
  generalize hH : H0 = H at hP ⊢
  have hS : va_S A H0 H [] := by rw [← hH]; exact hS
  clear hH
  unfold f_X3_perform at hf
  refine lv_iload_n hx hb dX3_perform_0 rfl (lv_at hl 2 rfl) ?_
  obtain ⟨o1, ho1, hf⟩ := bd_el hf
  refine kc0_i (D := D) (va_runSN (As := [.int p1]) (rest := []) ⟨hx, hb, hml, hown, hts⟩ ((k_X4_isSpeaker l D K p1 o1 ho1) H.size) ⟨va_cnB 1 hts gX3_perform_X4_isSpeaker_n79 rfl rfl rfl (hN _ (List.mem_of_getElem? (i := 48) rfl)) (hts (.initialized RX4) (List.mem_of_getElem? (i := 2) rfl)) yd_X4_isSpeaker ⟨Nat.le_of_ble_eq_true rfl, Nat.le_of_ble_eq_true rfl⟩, (hts (.static yX4_isSpeaker) (List.mem_of_getElem? (i := 1) rfl)), trivial⟩ (kPreS va_P_nil (va_D_nil (A := fun _ => True)) hK hN) rfl rfl hl.1 rfl (lv_room (Nat.le_of_ble_eq_true rfl)) dX3_perform_1 ⟨Nat.le_of_ble_eq_true rfl, Nat.le_of_ble_eq_true rfl⟩) hP hS hA (fun hzo1 H locs hP hS => ?_)
  refine lv_if_eq (tgt := 22) hx hb dX3_perform_4 (by decide) (fun c2 => ?_) (fun c2 => ?_)
  · rw [if_pos c2] at hf
    refine lv_iconst (v := 2) hx hb dX3_perform_22 (by decide) ?_
    obtain rfl := Option.some.inj hf
    exact hret rfl rfl rfl hP hD hS dX3_perform_23
  · rw [if_neg c2] at hf
    refine lv_iload hx hb dX3_perform_7 (lv_at hl 4 rfl) ?_
    obtain ⟨o3, ho3, hf⟩ := bd_el hf
    refine kc0_i (D := D) (va_runSN (As := [.int p3]) (rest := []) ⟨hx, hb, hml, hown, hts⟩ ((k_X4_isSpeaker l D K p3 o3 ho3) H.size) ⟨va_cnB 1 hts gX3_perform_X4_isSpeaker_n79 rfl rfl rfl (hN _ (List.mem_of_getElem? (i := 48) rfl)) (hts (.initialized RX4) (List.mem_of_getElem? (i := 2) rfl)) yd_X4_isSpeaker ⟨Nat.le_of_ble_eq_true rfl, Nat.le_of_ble_eq_true rfl⟩, (hts (.static yX4_isSpeaker) (List.mem_of_getElem? (i := 1) rfl)), trivial⟩ (kPreS va_P_nil (va_D_nil (A := fun _ => True)) hK hN) rfl rfl hl.1 rfl (lv_room (Nat.le_of_ble_eq_true rfl)) dX3_perform_9 ⟨Nat.le_of_ble_eq_true rfl, Nat.le_of_ble_eq_true rfl⟩) hP hS hA (fun hzo3 H locs hP hS => ?_)
    refine lv_if_eq (tgt := 22) hx hb dX3_perform_12 (by decide) (fun c4 => ?_) (fun c4 => ?_)
    · rw [if_pos c4] at hf
      refine lv_iconst (v := 2) hx hb dX3_perform_22 (by decide) ?_
      obtain rfl := Option.some.inj hf
      exact hret rfl rfl rfl hP hD hS dX3_perform_23
    · rw [if_neg c4] at hf
      refine lv_iload_n hx hb dX3_perform_15 rfl (lv_at hl 3 rfl) ?_
      obtain ⟨o5, ho5, hf⟩ := bd_el hf
      refine kc0_i (D := D) (va_runSN (As := [.int p2]) (rest := []) ⟨hx, hb, hml, hown, hts⟩ ((k_X4_isWord l D K p2 o5 ho5) H.size) ⟨va_cnB 1 hts gX3_perform_X4_isWord_n50 rfl rfl rfl (hN _ (List.mem_of_getElem? (i := 33) rfl)) (hts (.initialized RX4) (List.mem_of_getElem? (i := 2) rfl)) yd_X4_isWord ⟨Nat.le_of_ble_eq_true rfl, Nat.le_of_ble_eq_true rfl⟩, (hts (.static yX4_isWord) (List.mem_of_getElem? (i := 7) rfl)), trivial⟩ (kPreS va_P_nil (va_D_nil (A := fun _ => True)) hK hN) rfl rfl hl.1 rfl (lv_room (Nat.le_of_ble_eq_true rfl)) dX3_perform_16 ⟨Nat.le_of_ble_eq_true rfl, Nat.le_of_ble_eq_true rfl⟩) hP hS hA (fun hzo5 H locs hP hS => ?_)
      refine lv_if_ne (tgt := 24) hx hb dX3_perform_19 (by decide) (fun c6 => ?_) (fun c6 => ?_)
      · rw [if_neg c6] at hf
        refine lv_iload_n hx hb dX3_perform_24 rfl (lv_at hl 1 rfl) ?_
        refine lv_tab3 (t0 := 52) (t1 := 59) (t2 := 66) (td := 73) hx hb dX3_perform_25 (by decide) (by decide) (by decide) (by decide) (fun c7 => ?_) (fun c7 c8 => ?_) (fun c7 c8 c9 => ?_) (fun c7 c8 c9 => ?_)
        · rw [if_pos c7] at hf
          refine lv_aload_n hx hb dX3_perform_52 rfl (lv_at hl 0 rfl) ?_
          refine lv_iload_n hx hb dX3_perform_53 rfl (lv_at hl 2 rfl) ?_
          refine lv_iload_n hx hb dX3_perform_54 rfl (lv_at hl 3 rfl) ?_
          obtain ⟨o10, ho10, hf⟩ := ob_el hf
          refine kcw_i (D := D) (va_runV (As := [.int p1, .int p2]) (rest := []) ⟨hx, hb, hml, hown, hts⟩ ((k_X3_buy l D K q vw vk vr vp vb vi vwc vl vg vo vsc p1 p2 o10 ho10) H.size) (cwV 2 hts gX3_perform_X3_buy rfl rfl rfl ⟨rfl, yd_X3_buy⟩ ⟨Nat.le_of_ble_eq_true rfl, Nat.le_of_ble_eq_true rfl⟩) (kPreV (ci := 3) (q0 := 0) hP rfl rfl hP hD hK hN) rfl rfl hl.1 rfl (lv_room (Nat.le_of_ble_eq_true rfl)) dX3_perform_55 ⟨Nat.le_of_ble_eq_true rfl, Nat.le_of_ble_eq_true rfl⟩) hD hS hA (fun hzo10 H locs hP hD hS => ?_)
          have hP : va_P D vwCl (shW K q vw vk vr o10.2.1 o10.2.2 vi vwc vl vg vo vsc) H := hP
          have hD : va_D A (shW K q vw vk vr o10.2.1 o10.2.2 vi vwc vl vg vo vsc) := hD
          obtain rfl := Option.some.inj hf
          exact hret rfl rfl rfl hP hD hS dX3_perform_58
        · rw [if_neg c7, if_pos c8] at hf
          refine lv_aload_n hx hb dX3_perform_59 rfl (lv_at hl 0 rfl) ?_
          refine lv_iload_n hx hb dX3_perform_60 rfl (lv_at hl 2 rfl) ?_
          refine lv_iload_n hx hb dX3_perform_61 rfl (lv_at hl 3 rfl) ?_
          obtain ⟨o11, ho11, hf⟩ := ob_el hf
          refine kcw_i (D := D) (va_runV (As := [.int p1, .int p2]) (rest := []) ⟨hx, hb, hml, hown, hts⟩ ((k_X3_handIn l D K q vw vk vr vp vb vi vwc vl vg vo vsc p1 p2 o11 ho11) H.size) (cwV 2 hts gX3_perform_X3_handIn rfl rfl rfl ⟨rfl, yd_X3_handIn⟩ ⟨Nat.le_of_ble_eq_true rfl, Nat.le_of_ble_eq_true rfl⟩) (kPreV (ci := 3) (q0 := 0) hP rfl rfl hP hD hK hN) rfl rfl hl.1 rfl (lv_room (Nat.le_of_ble_eq_true rfl)) dX3_perform_62 ⟨Nat.le_of_ble_eq_true rfl, Nat.le_of_ble_eq_true rfl⟩) hD hS hA (fun hzo11 H locs hP hD hS => ?_)
          have hP : va_P D vwCl (shW K q vw vk vr o11.2.1 o11.2.2 vi vwc vl vg vo vsc) H := hP
          have hD : va_D A (shW K q vw vk vr o11.2.1 o11.2.2 vi vwc vl vg vo vsc) := hD
          obtain rfl := Option.some.inj hf
          exact hret rfl rfl rfl hP hD hS dX3_perform_65
        · rw [if_neg c7, if_neg c8, if_pos c9] at hf
          refine lv_aload_n hx hb dX3_perform_66 rfl (lv_at hl 0 rfl) ?_
          refine lv_iload_n hx hb dX3_perform_67 rfl (lv_at hl 2 rfl) ?_
          refine lv_iload_n hx hb dX3_perform_68 rfl (lv_at hl 3 rfl) ?_
          obtain ⟨o12, ho12, hf⟩ := ob_el hf
          refine kcw_i (D := D) (va_runV (As := [.int p1, .int p2]) (rest := []) ⟨hx, hb, hml, hown, hts⟩ ((k_X3_speak l D K q vw vk vr vp vb vi vwc vl vg vo vsc p1 p2 o12 ho12) H.size) (cwV 2 hts gX3_perform_X3_speak rfl rfl rfl ⟨rfl, yd_X3_speak⟩ ⟨Nat.le_of_ble_eq_true rfl, Nat.le_of_ble_eq_true rfl⟩) (kPreV (ci := 3) (q0 := 0) hP rfl rfl hP hD hK hN) rfl rfl hl.1 rfl (lv_room (Nat.le_of_ble_eq_true rfl)) dX3_perform_69 ⟨Nat.le_of_ble_eq_true rfl, Nat.le_of_ble_eq_true rfl⟩) hD hS hA (fun hzo12 H locs hP hD hS => ?_)
          have hP : va_P D vwCl (shW K q o12.2 vk vr vp vb vi vwc vl vg vo vsc) H := hP
          have hD : va_D A (shW K q o12.2 vk vr vp vb vi vwc vl vg vo vsc) := hD
          obtain rfl := Option.some.inj hf
          exact hret rfl rfl rfl hP hD hS dX3_perform_72
        · rw [if_neg c7, if_neg c8, if_neg c9] at hf
          refine lv_aload_n hx hb dX3_perform_73 rfl (lv_at hl 0 rfl) ?_
          refine lv_iload_n hx hb dX3_perform_74 rfl (lv_at hl 2 rfl) ?_
          refine lv_iload_n hx hb dX3_perform_75 rfl (lv_at hl 3 rfl) ?_
          refine lv_iload hx hb dX3_perform_76 (lv_at hl 4 rfl) ?_
          obtain ⟨o13, ho13, hf⟩ := ob_el hf
          refine kcw_i (D := D) (va_runV (As := [.int p1, .int p2, .int p3]) (rest := []) ⟨hx, hb, hml, hown, hts⟩ ((k_X3_give l D K q vw vk vr vp vb vi vwc vl vg vo vsc p1 p2 p3 o13 ho13) H.size) (cwV 3 hts gX3_perform_X3_give rfl rfl rfl ⟨rfl, yd_X3_give⟩ ⟨Nat.le_of_ble_eq_true rfl, Nat.le_of_ble_eq_true rfl⟩) (kPreV (ci := 3) (q0 := 0) hP rfl rfl hP hD hK hN) rfl rfl hl.1 rfl (lv_room (Nat.le_of_ble_eq_true rfl)) dX3_perform_78 ⟨Nat.le_of_ble_eq_true rfl, Nat.le_of_ble_eq_true rfl⟩) hD hS hA (fun hzo13 H locs hP hD hS => ?_)
          have hP : va_P D vwCl (shW K q vw vk vr vp o13.2 vi vwc vl vg vo vsc) H := hP
          have hD : va_D A (shW K q vw vk vr vp o13.2 vi vwc vl vg vo vsc) := hD
          obtain rfl := Option.some.inj hf
          exact hret rfl rfl rfl hP hD hS dX3_perform_81
      · rw [if_pos c6] at hf
        refine lv_iconst (v := 2) hx hb dX3_perform_22 (by decide) ?_
        obtain rfl := Option.some.inj hf
        exact hret rfl rfl rfl hP hD hS dX3_perform_23
def f_X3_drawnAct (p0 : Int32) : Int32 := if 1 < p0 then (if 3 < p0 then (if p0 = 4 then (1) else (3)) else (2)) else (0)
theorem yd_X3_drawnAct : yX3_drawnAct.cls ≠ "java/lang/invoke/MethodHandle" ∧ yX3_drawnAct.cls ≠ "java/lang/invoke/VarHandle" ∧ (parseMethodDescriptor yX3_drawnAct.desc).map (fun d => d.parameters.length) = some 1 := by decide +kernel
abbrev rmX3_drawnAct : Room := { frames := 0, cells := 0, slots := 0, locals := 0 }
set_option maxHeartbeats 4000000 in
set_option maxRecDepth 100000 in
theorem k_X3_drawnAct (l : Launch) (D : va_G) (K : Nat → ClassId) (p0 : Int32) (out : Int32) (hf : f_X3_drawnAct p0 = out) : kI l D K .int yX3_drawnAct wsX3_drawnAct rmX3_drawnAct [.int p0] ([] : va_W) out ([] : va_W) := by
  refine kI.of (cc := cX3_drawnAct) (maxL := 1) (by decide) rfl (Nat.le_of_ble_eq_true rfl) ?_
  intro p e s m args below meth c A H0 Q ls hx hb hml hown hts hK hN hA hP hD hS hl hret
  have hown : s.vm.findClass RX3 = some m.cls := hown
  have hl : lv_has ls 1 [(0, .int p0)] := hl
  generalize hH : H0 = H at hP ⊢
  have hS : va_S A H0 H [] := by rw [← hH]; exact hS
  clear hH
  unfold f_X3_drawnAct at hf
  refine lv_iload_n hx hb dX3_drawnAct_0 rfl (lv_at hl 0 rfl) ?_
  refine lv_iconst (v := 1) hx hb dX3_drawnAct_1 (by decide) ?_
  refine lv_icmp_gt (tgt := 7) hx hb dX3_drawnAct_2 (by decide) (fun c1 => ?_) (fun c1 => ?_)
  · rw [if_pos c1] at hf
    refine lv_iload_n hx hb dX3_drawnAct_7 rfl (lv_at hl 0 rfl) ?_
    refine lv_iconst (v := 3) hx hb dX3_drawnAct_8 (by decide) ?_
    refine lv_icmp_gt (tgt := 14) hx hb dX3_drawnAct_9 (by decide) (fun c2 => ?_) (fun c2 => ?_)
    · rw [if_pos c2] at hf
      refine lv_iload_n hx hb dX3_drawnAct_14 rfl (lv_at hl 0 rfl) ?_
      refine lv_iconst (v := 4) hx hb dX3_drawnAct_15 (by decide) ?_
      refine lv_icmp_ne (tgt := 23) hx hb dX3_drawnAct_16 (by decide) (fun c3 => ?_) (fun c3 => ?_)
      · rw [if_neg c3] at hf
        refine lv_iconst (v := 3) hx hb dX3_drawnAct_23 (by decide) ?_
        subst hf
        exact hret rfl rfl rfl hP hD hS dX3_drawnAct_24
      · rw [if_pos c3] at hf
        refine lv_iconst (v := 1) hx hb dX3_drawnAct_19 (by decide) ?_
        refine lv_goto (tgt := 24) hx hb dX3_drawnAct_20 (by decide) ?_
        subst hf
        exact hret rfl rfl rfl hP hD hS dX3_drawnAct_24
    · rw [if_neg c2] at hf
      refine lv_iconst (v := 2) hx hb dX3_drawnAct_12 (by decide) ?_
      subst hf
      exact hret rfl rfl rfl hP hD hS dX3_drawnAct_13
  · rw [if_neg c1] at hf
    refine lv_iconst (v := 0) hx hb dX3_drawnAct_5 (by decide) ?_
    subst hf
    exact hret rfl rfl rfl hP hD hS dX3_drawnAct_6
def s_X3_liveYear_5 (p1 : Int32) (x : Int32 × Int32 × (Nat → Int32) × (Nat → Int32) × (Nat → Int32)) : Option ((Int32 × Int32 × (Nat → Int32) × (Nat → Int32) × (Nat → Int32)) ⊕ (Int32 × Int32 × (Nat → Int32) × (Nat → Int32) × (Nat → Int32))) := if p1 ≤ x.2.1 then (some (.inr (x.1, x.2.1, x.2.2.1, x.2.2.2.1, x.2.2.2.2))) else (bd (f_X3_drawnAct (((((75 * x.1) + 74) - ((75 * x.1) + 74) / 65537 * 65537) / 48) - ((((75 * x.1) + 74) - ((75 * x.1) + 74) / 65537 * 65537) / 48) / 6 * 6)) (fun o3 => ob (f_X3_perform x.2.2.2.2 x.2.2.2.1 x.2.2.1 o3 ((((75 * x.1) + 74) - ((75 * x.1) + 74) / 65537 * 65537) - (((75 * x.1) + 74) - ((75 * x.1) + 74) / 65537 * 65537) / 4 * 4) (((((75 * x.1) + 74) - ((75 * x.1) + 74) / 65537 * 65537) / 4) - ((((75 * x.1) + 74) - ((75 * x.1) + 74) / 65537 * 65537) / 4) / 12 * 12) (((((75 * x.1) + 74) - ((75 * x.1) + 74) / 65537 * 65537) / 288) - ((((75 * x.1) + 74) - ((75 * x.1) + 74) / 65537 * 65537) / 288) / 4 * 4)) (fun o4 => some (.inl ((((75 * x.1) + 74) - ((75 * x.1) + 74) / 65537 * 65537), (x.2.1 + 1), o4.2.2.2, o4.2.2.1, o4.2.1)))))
def f_X3_liveYear (vw : Nat → Int32) (vp : Nat → Int32) (vb : Nat → Int32) (p0 : Int32) (p1 : Int32) : Option ((Nat → Int32) × (Nat → Int32) × (Nat → Int32)) := ob (wh (s_X3_liveYear_5 p1) 5000 (p0, 0, vb, vp, vw)) (fun r1 => some (r1.2.2.2.2, r1.2.2.2.1, r1.2.2.1))
theorem yd_X3_liveYear : yX3_liveYear.cls ≠ "java/lang/invoke/MethodHandle" ∧ yX3_liveYear.cls ≠ "java/lang/invoke/VarHandle" ∧ (parseMethodDescriptor yX3_liveYear.desc).map (fun d => d.parameters.length) = some 2 := by decide +kernel
abbrev rmX3_liveYear : Room := { frames := 3, cells := 0, slots := 0, locals := 71 }
set_option maxHeartbeats 4000000 in
set_option maxRecDepth 100000 in
theorem k_X3_liveYear (l : Launch) (D : va_G) (K : Nat → ClassId) (q : Nat → Nat) (vw : Nat → Int32) (vk : Nat → Int32) (vr : Nat → Int32) (vp : Nat → Int32) (vb : Nat → Int32) (vi : Nat → Int32) (vwc : Int32) (vl : Nat → Int32) (vg : Nat → Int32) (vo : Nat → Int32) (vsc : Int32) (p0 : Int32) (p1 : Int32) (out : (Nat → Int32) × (Nat → Int32) × (Nat → Int32)) (hf : f_X3_liveYear vw vp vb p0 p1 = some out) : kV l D K yX3_liveYear wsX3_liveYear rmX3_liveYear [.ref (q 0), .int p0, .int p1] (shW K q vw vk vr vp vb vi vwc vl vg vo vsc) (shW K q out.1 vk vr out.2.1 out.2.2 vi vwc vl vg vo vsc) := by
  refine kV.of (cc := cX3_liveYear) (maxL := 5) (by decide) rfl (Nat.le_of_ble_eq_true rfl) ?_
  intro p e s m args below meth c A H0 Q ls hx hb hml hown hts hK hN hA hP hD hS hl hret
  have hown : s.vm.findClass RX3 = some m.cls := hown
  have hl : lv_has ls 5 [(0, .ref (q 0)), (1, .int p0), (2, .int p1)] := hl
  generalize hH : H0 = H at hP ⊢
  have hS : va_S A H0 H [] := by rw [← hH]; exact hS
  clear hH
  unfold f_X3_liveYear at hf
  refine lv_iload_n hx hb dX3_liveYear_0 rfl (lv_at hl 1 rfl) ?_
  refine lv_istore_n (lv' := [(3, .int p0), (0, .ref (q 0)), (1, .int p0), (2, .int p1)]) hx hb dX3_liveYear_1 rfl hl (by decide) rfl (fun ls hl => ?_)
  refine lv_iconst (v := 0) hx hb dX3_liveYear_2 (by decide) ?_
  refine lv_istore (lv' := [(4, .int 0), (3, .int p0), (0, .ref (q 0)), (1, .int p0), (2, .int p1)]) hx hb dX3_liveYear_3 hl (by decide) rfl (fun ls hl => ?_)
  obtain ⟨r1, hr1, hf⟩ := ob_el hf
  have post5 : ∀ (e5_l3 : Int32) (e5_l4 : Int32) (e5_b : Nat → Int32) (e5_p : Nat → Int32) (e5_w : Nat → Int32) (H : Heap) (locs : List Loc) (ls : Array Slot), (some (e5_w, e5_p, e5_b)) = some out → va_P D vwCl (shW K q e5_w vk vr e5_p e5_b vi vwc vl vg vo vsc) H → va_D A (shW K q e5_w vk vr e5_p e5_b vi vwc vl vg vo vsc) → va_S A H0 H locs → lv_has ls 5 [(4, .int e5_l4), (3, .int e5_l3), (0, .ref (q 0)), (1, .int p0), (2, .int p1)] → W p l e rmX3_liveYear s m args below meth c H locs 0 0 Q (F0 m 59 ls []) := by
    intro e5_l3 e5_l4 e5_b e5_p e5_w H locs ls hf hP hD hS hl
    obtain rfl := Option.some.inj hf
    exact hret rfl hP hD hS dX3_liveYear_59
  have lp5 : ∀ (fu : Nat) (x5_l3 : Int32) (x5_l4 : Int32) (x5_b : Nat → Int32) (x5_p : Nat → Int32) (x5_w : Nat → Int32) (H : Heap) (locs : List Loc) (ls : Array Slot), wh (s_X3_liveYear_5 p1) fu (x5_l3, x5_l4, x5_b, x5_p, x5_w) = some r1 → va_P D vwCl (shW K q x5_w vk vr x5_p x5_b vi vwc vl vg vo vsc) H → va_D A (shW K q x5_w vk vr x5_p x5_b vi vwc vl vg vo vsc) → va_S A H0 H locs → lv_has ls 5 [(4, .int x5_l4), (3, .int x5_l3), (0, .ref (q 0)), (1, .int p0), (2, .int p1)] → W p l e rmX3_liveYear s m args below meth c H locs 0 0 Q (F0 m 5 ls []) := by
    intro fu
    induction fu with
    | zero => intro x5_l3 x5_l4 x5_b x5_p x5_w H locs ls hw5; cases hw5
    | succ fu ih5 =>
      intro x5_l3 x5_l4 x5_b x5_p x5_w H locs ls hw5 hP hD hS hl
      obtain ⟨o5_, hs5, hw5⟩ := wh_el hw5
      unfold s_X3_liveYear_5 at hs5
      dsimp only at hs5
      refine lv_iload hx hb dX3_liveYear_5 (lv_at hl 0 rfl) ?_
      refine lv_iload_n hx hb dX3_liveYear_7 rfl (lv_at hl 4 rfl) ?_
      refine lv_icmp_ge (tgt := 59) hx hb dX3_liveYear_8 (by decide) (fun c2 => ?_) (fun c2 => ?_)
      · rw [if_pos c2] at hs5
        obtain rfl := Option.some.inj hs5
        have e9 := Option.some.inj hw5
        rw [← e9] at hf
        exact post5 _ _ _ _ _ _ _ _ hf hP hD hS (lv_sub hl [0, 1, 2, 3, 4] rfl)
      · rw [if_neg c2] at hs5
        refine lv_bipush (v := 75) hx hb dX3_liveYear_11 (by decide) ?_
        refine lv_iload_n hx hb dX3_liveYear_13 rfl (lv_at hl 1 rfl) ?_
        refine lv_imul hx hb dX3_liveYear_14 ?_
        refine lv_bipush (v := 74) hx hb dX3_liveYear_15 (by decide) ?_
        refine lv_iadd hx hb dX3_liveYear_17 ?_
        refine lv_ldc hx hb hown (hts (.constant RX3 95 (65537)) (List.mem_of_getElem? (i := 1) rfl)) dX3_liveYear_18 ?_
        refine lv_irem hx hb dX3_liveYear_20 (by decide) ?_
        refine lv_istore_n (lv' := [(3, .int (((75 * x5_l3) + 74) - ((75 * x5_l3) + 74) / 65537 * 65537)), (4, .int x5_l4), (0, .ref (q 0)), (1, .int p0), (2, .int p1)]) hx hb dX3_liveYear_21 rfl hl (by decide) rfl (fun ls hl => ?_)
        refine lv_aload_n hx hb dX3_liveYear_22 rfl (lv_at hl 2 rfl) ?_
        refine lv_iload_n hx hb dX3_liveYear_23 rfl (lv_at hl 0 rfl) ?_
        refine lv_bipush (v := 48) hx hb dX3_liveYear_24 (by decide) ?_
        refine lv_idiv hx hb dX3_liveYear_26 (by decide) ?_
        refine lv_bipush (v := 6) hx hb dX3_liveYear_27 (by decide) ?_
        refine lv_irem hx hb dX3_liveYear_29 (by decide) ?_
        obtain ⟨o3, ho3, hs5⟩ := bd_el hs5
        refine kc0_i (D := D) (va_runS (As := [.int (((((75 * x5_l3) + 74) - ((75 * x5_l3) + 74) / 65537 * 65537) / 48) - ((((75 * x5_l3) + 74) - ((75 * x5_l3) + 74) / 65537 * 65537) / 48) / 6 * 6)]) (rest := [.ref (q 0)]) ⟨hx, hb, hml, hown, hts⟩ ((k_X3_drawnAct l D K (((((75 * x5_l3) + 74) - ((75 * x5_l3) + 74) / 65537 * 65537) / 48) - ((((75 * x5_l3) + 74) - ((75 * x5_l3) + 74) / 65537 * 65537) / 48) / 6 * 6) o3 ho3) H.size) (va_cwS 1 hts gX3_liveYear_X3_drawnAct rfl rfl rfl yd_X3_drawnAct ⟨Nat.le_of_ble_eq_true rfl, Nat.le_of_ble_eq_true rfl⟩) (kPreS va_P_nil (va_D_nil (A := fun _ => True)) hK hN) rfl rfl hl.1 rfl (lv_room (Nat.le_of_ble_eq_true rfl)) dX3_liveYear_30 ⟨Nat.le_of_ble_eq_true rfl, Nat.le_of_ble_eq_true rfl⟩) hP hS hA (fun hzo3 H locs hP hS => ?_)
        refine lv_iload_n hx hb dX3_liveYear_33 rfl (lv_at hl 0 rfl) ?_
        refine lv_iconst (v := 4) hx hb dX3_liveYear_34 (by decide) ?_
        refine lv_irem hx hb dX3_liveYear_35 (by decide) ?_
        refine lv_iload_n hx hb dX3_liveYear_36 rfl (lv_at hl 0 rfl) ?_
        refine lv_iconst (v := 4) hx hb dX3_liveYear_37 (by decide) ?_
        refine lv_idiv hx hb dX3_liveYear_38 (by decide) ?_
        refine lv_bipush (v := 12) hx hb dX3_liveYear_39 (by decide) ?_
        refine lv_irem hx hb dX3_liveYear_41 (by decide) ?_
        refine lv_iload_n hx hb dX3_liveYear_42 rfl (lv_at hl 0 rfl) ?_
        refine lv_sipush (v := 288) hx hb dX3_liveYear_43 (by decide) ?_
        refine lv_idiv hx hb dX3_liveYear_46 (by decide) ?_
        refine lv_iconst (v := 4) hx hb dX3_liveYear_47 (by decide) ?_
        refine lv_irem hx hb dX3_liveYear_48 (by decide) ?_
        obtain ⟨o4, ho4, hs5⟩ := ob_el hs5
        refine kcw_i (D := D) (va_runV (As := [.int o3, .int ((((75 * x5_l3) + 74) - ((75 * x5_l3) + 74) / 65537 * 65537) - (((75 * x5_l3) + 74) - ((75 * x5_l3) + 74) / 65537 * 65537) / 4 * 4), .int (((((75 * x5_l3) + 74) - ((75 * x5_l3) + 74) / 65537 * 65537) / 4) - ((((75 * x5_l3) + 74) - ((75 * x5_l3) + 74) / 65537 * 65537) / 4) / 12 * 12), .int (((((75 * x5_l3) + 74) - ((75 * x5_l3) + 74) / 65537 * 65537) / 288) - ((((75 * x5_l3) + 74) - ((75 * x5_l3) + 74) / 65537 * 65537) / 288) / 4 * 4)]) (rest := []) ⟨hx, hb, hml, hown, hts⟩ ((k_X3_perform l D K q x5_w vk vr x5_p x5_b vi vwc vl vg vo vsc o3 ((((75 * x5_l3) + 74) - ((75 * x5_l3) + 74) / 65537 * 65537) - (((75 * x5_l3) + 74) - ((75 * x5_l3) + 74) / 65537 * 65537) / 4 * 4) (((((75 * x5_l3) + 74) - ((75 * x5_l3) + 74) / 65537 * 65537) / 4) - ((((75 * x5_l3) + 74) - ((75 * x5_l3) + 74) / 65537 * 65537) / 4) / 12 * 12) (((((75 * x5_l3) + 74) - ((75 * x5_l3) + 74) / 65537 * 65537) / 288) - ((((75 * x5_l3) + 74) - ((75 * x5_l3) + 74) / 65537 * 65537) / 288) / 4 * 4) o4 ho4) H.size) (cwV 4 hts gX3_liveYear_X3_perform rfl rfl rfl ⟨rfl, yd_X3_perform⟩ ⟨Nat.le_of_ble_eq_true rfl, Nat.le_of_ble_eq_true rfl⟩) (kPreV (ci := 3) (q0 := 0) hP rfl rfl hP hD hK hN) rfl rfl hl.1 rfl (lv_room (Nat.le_of_ble_eq_true rfl)) dX3_liveYear_49 ⟨Nat.le_of_ble_eq_true rfl, Nat.le_of_ble_eq_true rfl⟩) hD hS hA (fun hzo4 H locs hP hD hS => ?_)
        have hP : va_P D vwCl (shW K q o4.2.1 vk vr o4.2.2.1 o4.2.2.2 vi vwc vl vg vo vsc) H := hP
        have hD : va_D A (shW K q o4.2.1 vk vr o4.2.2.1 o4.2.2.2 vi vwc vl vg vo vsc) := hD
        refine lv_pop hx hb dX3_liveYear_52 rfl ?_
        refine lv_iinc (v := (x5_l4 + 1)) (lv' := [(4, .int (x5_l4 + 1)), (3, .int (((75 * x5_l3) + 74) - ((75 * x5_l3) + 74) / 65537 * 65537)), (0, .ref (q 0)), (1, .int p0), (2, .int p1)]) hx hb dX3_liveYear_53 hl (k := 1) rfl (by rfl) (by decide) rfl (fun ls hl => ?_)
        refine lv_goto (tgt := 5) hx hb dX3_liveYear_56 (by decide) ?_
        obtain rfl := Option.some.inj hs5
        exact ih5 _ _ _ _ _ _ _ _ hw5 hP hD hS (lv_sub hl [0, 1, 2, 3, 4] rfl)
  exact lp5 5000 _ _ _ _ _ _ _ _ hr1 hP hD hS (lv_sub hl [0, 1, 2, 3, 4] rfl)
