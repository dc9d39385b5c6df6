def s_X4_bestMean_60 (p2 : Int32) (x35_l4 : Int64) (x : Int64 × Int32 × (Nat → Int64)) : Option ((Int64 × Int32 × (Nat → Int64)) ⊕ (Int64 × Int32 × (Nat → Int64))) := if 49 ≤ (x.2.1 + 1) then (some (.inr (x.1, x.2.1, x.2.2))) else (chk x.2.1 49 (chk (x.2.1 + 1) 49 (some (.inl ((x.2.2 (x.2.1).toNatClampNeg), (x.2.1 + 1), (vp_updL x.2.2 (x.2.1).toNatClampNeg (if ((p2.toInt64 * (x.2.2 ((x.2.1 + 1)).toNatClampNeg)) + ((10 - p2).toInt64 * x.1)) < (x.2.1.toInt64 * (x35_l4 * 10)) then (x.2.1.toInt64 * (x35_l4 * 10)) else ((p2.toInt64 * (x.2.2 ((x.2.1 + 1)).toNatClampNeg)) + ((10 - p2).toInt64 * x.1)))))))))
def s_X4_bestMean_35 (p1 : Int32) (p2 : Int32) (x : Int64 × Int32 × (Nat → Int64)) : Option ((Int64 × Int32 × (Nat → Int64)) ⊕ (Int64 × Int32 × (Nat → Int64))) := if p1 < x.2.1 then (some (.inr (x.1, x.2.1, x.2.2))) else (ob (wh (s_X4_bestMean_60 p2 x.1) 5000 ((x.2.2 (0 : Int32).toNatClampNeg), 0, x.2.2)) (fun r7 => some (.inl ((x.1 * 10), (x.2.1 + 1), r7.2.2))))
def s_X4_bestMean_3 (x : Int32 × (Nat → Int64)) : Option ((Int32 × (Nat → Int64)) ⊕ (Int32 × (Nat → Int64))) := if 49 ≤ x.1 then (some (.inr (x.1, x.2))) else (chk x.1 49 (some (.inl ((x.1 + 1), (vp_updL x.2 (x.1).toNatClampNeg x.1.toInt64)))))
def f_X4_bestMean (vfm : Nat → Int64) (p0 : Int32) (p1 : Int32) (p2 : Int32) : Option (Int64 × (Nat → Int64)) := ob (wh (s_X4_bestMean_3) 5000 (0, vfm)) (fun r1 => ob (wh (s_X4_bestMean_35 p1 p2) 5000 (1, 1, r1.2)) (fun r2 => bd (f_X4_isWithin p0 (0) (49 - 1)) (fun o3 => if o3 = 0 then (some (0, r2.2.2)) else (chk p0 49 (some ((r2.2.2 (p0).toNatClampNeg), r2.2.2))))))
theorem inX4_bestMean_X4 : ∀ w ∈ wsX40, w ∈ wsX4_bestMean := fun w h => List.mem_cons_of_mem _ (List.mem_append_right _ h)
theorem yd_X4_bestMean : yX4_bestMean.cls ≠ "java/lang/invoke/MethodHandle" ∧ yX4_bestMean.cls ≠ "java/lang/invoke/VarHandle" ∧ (parseMethodDescriptor yX4_bestMean.desc).map (fun d => d.parameters.length) = some 3 := by decide +kernel
abbrev rmX4_bestMean : Room := { frames := 1, cells := 0, slots := 0, locals := 25 }
set_option maxHeartbeats 4000000 in
set_option maxRecDepth 100000 in
theorem k_X4_bestMean (l : Launch) (D : va_G) (K : Nat → ClassId) (ax : Nat) (alm : Nat) (zshop : Nat) (zyearShop : Nat) (zimages : Nat) (zsigns : Nat) (zdays : Nat) (vsgc : Int32) (vfm : Nat → Int64) (p0 : Int32) (p1 : Int32) (p2 : Int32) (out : Int64 × (Nat → Int64)) (hf : f_X4_bestMean vfm p0 p1 p2 = some out) : kL l D K yX4_bestMean wsX4_bestMean rmX4_bestMean [.ref ax, .int p0, .int p1, .int p2] ((xoW ax zshop zyearShop zimages zsigns zdays alm vsgc) ++ (laW K alm 49 vfm)) out.1 ((xoW ax zshop zyearShop zimages zsigns zdays alm vsgc) ++ (laW K alm 49 out.2)) := by
  refine kL.of (cc := cX4_bestMean) (maxL := 14) (by decide) rfl (Nat.le_of_ble_eq_true rfl) ?_
  intro p e s m args below meth c A H0 Q ls hx hb hml hown hts hK hN hA hP hD hS hl hret
  have hown : s.vm.findClass RX4 = some m.cls := hown
  have hl : lv_has ls 14 [(0, .ref ax), (1, .int p0), (2, .int p1), (3, .int p2)] := hl
  generalize hH : H0 = H at hP ⊢
  have hS : va_S A H0 H [] := by rw [← hH]; exact hS
  clear hH
  unfold f_X4_bestMean at hf
  refine lv_iconst (v := 0) hx hb dX4_bestMean_0 (by decide) ?_
  refine lv_istore (lv' := [(4, .int 0), (0, .ref ax), (1, .int p0), (2, .int p1), (3, .int p2)]) hx hb dX4_bestMean_1 hl (by decide) rfl (fun ls hl => ?_)
  obtain ⟨r1, hr1, hf⟩ := ob_el hf
  have post3 : ∀ (e3_l4 : Int32) (e3_f1 : Nat → Int64) (H : Heap) (locs : List Loc) (ls : Array Slot), (ob (wh (s_X4_bestMean_35 p1 p2) 5000 (1, 1, e3_f1)) (fun r2 => bd (f_X4_isWithin p0 (0) (49 - 1)) (fun o3 => if o3 = 0 then (some (0, r2.2.2)) else (chk p0 49 (some ((r2.2.2 (p0).toNatClampNeg), r2.2.2)))))) = some out → va_P D vwCl ((xoW ax zshop zyearShop zimages zsigns zdays alm vsgc) ++ (laW K alm 49 e3_f1)) H → va_D A ((xoW ax zshop zyearShop zimages zsigns zdays alm vsgc) ++ (laW K alm 49 e3_f1)) → va_S A H0 H locs → lv_has ls 14 [(4, .int e3_l4), (0, .ref ax), (1, .int p0), (2, .int p1), (3, .int p2)] → W p l e rmX4_bestMean s m args below meth c H locs 0 0 Q (F0 m 29 ls []) := by
    intro e3_l4 e3_f1 H locs ls hf hP hD hS hl
    refine lv_lconst (v := 1) hx hb dX4_bestMean_29 (by decide) ?_
    refine lv_lstore (lv' := [(4, .long 1), (0, .ref ax), (1, .int p0), (2, .int p1), (3, .int p2)]) hx hb dX4_bestMean_30 hl (by decide) rfl (fun ls hl => ?_)
    refine lv_iconst (v := 1) hx hb dX4_bestMean_32 (by decide) ?_
    refine lv_istore (lv' := [(6, .int 1), (4, .long 1), (0, .ref ax), (1, .int p0), (2, .int p1), (3, .int p2)]) hx hb dX4_bestMean_33 hl (by decide) rfl (fun ls hl => ?_)
    obtain ⟨r2, hr2, hf⟩ := ob_el hf
    have post35 : ∀ (e35_l4 : Int64) (e35_l6 : Int32) (e35_f1 : Nat → Int64) (H : Heap) (locs : List Loc) (ls : Array Slot), (bd (f_X4_isWithin p0 (0) (49 - 1)) (fun o3 => if o3 = 0 then (some (0, e35_f1)) else (chk p0 49 (some ((e35_f1 (p0).toNatClampNeg), e35_f1))))) = some out → va_P D vwCl ((xoW ax zshop zyearShop zimages zsigns zdays alm vsgc) ++ (laW K alm 49 e35_f1)) H → va_D A ((xoW ax zshop zyearShop zimages zsigns zdays alm vsgc) ++ (laW K alm 49 e35_f1)) → va_S A H0 H locs → lv_has ls 14 [(6, .int e35_l6), (4, .long e35_l4), (0, .ref ax), (1, .int p0), (2, .int p1), (3, .int p2)] → W p l e rmX4_bestMean s m args below meth c H locs 0 0 Q (F0 m 138 ls []) := by
      intro e35_l4 e35_l6 e35_f1 H locs ls hf hP hD hS hl
      refine lv_iload_n hx hb dX4_bestMean_138 rfl (lv_at hl 3 rfl) ?_
      refine lv_iconst (v := 0) hx hb dX4_bestMean_139 (by decide) ?_
      refine lv_aload_n hx hb dX4_bestMean_140 rfl (lv_at hl 2 rfl) ?_
      refine va_get (D := D) (ci := 4) (v := .ref alm) (C := RX4) (T := TX4) (N := 7) hx hb hts inX4_bestMean_X4 hown hK hP 0 rfl rfl 6 (by decide) (hts (.fieldLink RX4 38 "WordScales" "means" "[J") (List.mem_of_getElem? (i := 1) rfl)) (fun _ h9 => h9) rfl dX4_bestMean_141 ?_
      refine va_alen (D := D) (v := 49) hx hb hK hP 1 1 rfl rfl rfl dX4_bestMean_144 ?_
      refine lv_iconst (v := 1) hx hb dX4_bestMean_145 (by decide) ?_
      refine lv_isub hx hb dX4_bestMean_146 ?_
      obtain ⟨o3, ho3, hf⟩ := bd_el hf
      refine kc0_i (D := D) (va_runS (As := [.int p0, .int 0, .int (49 - 1)]) (rest := []) ⟨hx, hb, hml, hown, hts⟩ ((k_X4_isWithin l D K p0 (0) (49 - 1) o3 ho3) H.size) (va_cwS 3 hts gX4_bestMean_X4_isWithin rfl rfl rfl yd_X4_isWithin ⟨Nat.le_of_ble_eq_true rfl, Nat.le_of_ble_eq_true rfl⟩) (kPreS va_P_nil (va_D_nil (A := fun _ => True)) hK hN) rfl rfl hl.1 rfl (lv_room (Nat.le_of_ble_eq_true rfl)) dX4_bestMean_147 ⟨Nat.le_of_ble_eq_true rfl, Nat.le_of_ble_eq_true rfl⟩) hP hS hA (fun hzo3 H locs hP hS => ?_)
      refine lv_if_eq (tgt := 162) hx hb dX4_bestMean_150 (by decide) (fun c4 => ?_) (fun c4 => ?_)
      · rw [if_pos c4] at hf
        refine lv_lconst (v := 0) hx hb dX4_bestMean_162 (by decide) ?_
        obtain rfl := Option.some.inj hf
        exact hret rfl rfl hP hD hS dX4_bestMean_163
      · rw [if_neg c4] at hf
        refine lv_aload_n hx hb dX4_bestMean_153 rfl (lv_at hl 2 rfl) ?_
        refine va_get (D := D) (ci := 4) (v := .ref alm) (C := RX4) (T := TX4) (N := 7) hx hb hts inX4_bestMean_X4 hown hK hP 0 rfl rfl 6 (by decide) (hts (.fieldLink RX4 38 "WordScales" "means" "[J") (List.mem_of_getElem? (i := 1) rfl)) (fun _ h9 => h9) rfl dX4_bestMean_154 ?_
        refine lv_iload_n hx hb dX4_bestMean_157 rfl (lv_at hl 3 rfl) ?_
        obtain ⟨v5, hf⟩ := chk_el hf
        refine va_lald (D := D) (f := e35_f1) hx hb hK hP 1 1 rfl rfl v5 dX4_bestMean_158 ?_
        refine lv_goto (tgt := 163) hx hb dX4_bestMean_159 (by decide) ?_
        obtain rfl := Option.some.inj hf
        exact hret rfl rfl hP hD hS dX4_bestMean_163
    have lp35 : ∀ (fu : Nat) (x35_l4 : Int64) (x35_l6 : Int32) (x35_f1 : Nat → Int64) (H : Heap) (locs : List Loc) (ls : Array Slot), wh (s_X4_bestMean_35 p1 p2) fu (x35_l4, x35_l6, x35_f1) = some r2 → va_P D vwCl ((xoW ax zshop zyearShop zimages zsigns zdays alm vsgc) ++ (laW K alm 49 x35_f1)) H → va_D A ((xoW ax zshop zyearShop zimages zsigns zdays alm vsgc) ++ (laW K alm 49 x35_f1)) → va_S A H0 H locs → lv_has ls 14 [(6, .int x35_l6), (4, .long x35_l4), (0, .ref ax), (1, .int p0), (2, .int p1), (3, .int p2)] → W p l e rmX4_bestMean s m args below meth c H locs 0 0 Q (F0 m 35 ls []) := by
      intro fu
      induction fu with
      | zero => intro x35_l4 x35_l6 x35_f1 H locs ls hw35; cases hw35
      | succ fu ih35 =>
        intro x35_l4 x35_l6 x35_f1 H locs ls hw35 hP hD hS hl
        obtain ⟨o35_, hs35, hw35⟩ := wh_el hw35
        unfold s_X4_bestMean_35 at hs35
        dsimp only at hs35
        refine lv_iload hx hb dX4_bestMean_35 (lv_at hl 0 rfl) ?_
        refine lv_iload_n hx hb dX4_bestMean_37 rfl (lv_at hl 4 rfl) ?_
        refine lv_icmp_gt (tgt := 138) hx hb dX4_bestMean_38 (by decide) (fun c6 => ?_) (fun c6 => ?_)
        · rw [if_pos c6] at hs35
          obtain rfl := Option.some.inj hs35
          have e9 := Option.some.inj hw35
          rw [← e9] at hf
          exact post35 _ _ _ _ _ _ hf hP hD hS (lv_sub hl [0, 1, 2, 3, 4, 5] rfl)
        · rw [if_neg c6] at hs35
          refine lv_lload hx hb dX4_bestMean_41 (lv_at hl 1 rfl) ?_
          refine lv_ldc2 hx hb hown (hts (.constantLong RX4 188 (10)) (List.mem_of_getElem? (i := 2) rfl)) dX4_bestMean_43 ?_
          refine lv_lmul hx hb dX4_bestMean_46 ?_
          refine lv_lstore (lv' := [(4, .long (x35_l4 * 10)), (6, .int x35_l6), (0, .ref ax), (1, .int p0), (2, .int p1), (3, .int p2)]) hx hb dX4_bestMean_47 hl (by decide) rfl (fun ls hl => ?_)
          refine lv_aload_n hx hb dX4_bestMean_49 rfl (lv_at hl 2 rfl) ?_
          refine va_get (D := D) (ci := 4) (v := .ref alm) (C := RX4) (T := TX4) (N := 7) hx hb hts inX4_bestMean_X4 hown hK hP 0 rfl rfl 6 (by decide) (hts (.fieldLink RX4 38 "WordScales" "means" "[J") (List.mem_of_getElem? (i := 1) rfl)) (fun _ h9 => h9) rfl dX4_bestMean_50 ?_
          refine lv_iconst (v := 0) hx hb dX4_bestMean_53 (by decide) ?_
          refine va_lald (D := D) (f := x35_f1) hx hb hK hP 1 1 rfl rfl (vp_in_nI (n := 0) (N := 49) (by decide) (by decide)) dX4_bestMean_54 ?_
          refine lv_lstore (lv' := [(7, .long (x35_f1 (0 : Int32).toNatClampNeg)), (4, .long (x35_l4 * 10)), (6, .int x35_l6), (0, .ref ax), (1, .int p0), (2, .int p1), (3, .int p2)]) hx hb dX4_bestMean_55 hl (by decide) rfl (fun ls hl => ?_)
          refine lv_iconst (v := 0) hx hb dX4_bestMean_57 (by decide) ?_
          refine lv_istore (lv' := [(9, .int 0), (7, .long (x35_f1 (0 : Int32).toNatClampNeg)), (4, .long (x35_l4 * 10)), (6, .int x35_l6), (0, .ref ax), (1, .int p0), (2, .int p1), (3, .int p2)]) hx hb dX4_bestMean_58 hl (by decide) rfl (fun ls hl => ?_)
          obtain ⟨r7, hr7, hs35⟩ := ob_el hs35
          have post60 : ∀ (e60_l7 : Int64) (e60_l9 : Int32) (e60_f1 : Nat → Int64) (H : Heap) (locs : List Loc) (ls : Array Slot), (some (.inl ((x35_l4 * 10), (x35_l6 + 1), e60_f1))) = some o35_ → va_P D vwCl ((xoW ax zshop zyearShop zimages zsigns zdays alm vsgc) ++ (laW K alm 49 e60_f1)) H → va_D A ((xoW ax zshop zyearShop zimages zsigns zdays alm vsgc) ++ (laW K alm 49 e60_f1)) → va_S A H0 H locs → lv_has ls 14 [(9, .int e60_l9), (7, .long e60_l7), (4, .long (x35_l4 * 10)), (6, .int x35_l6), (0, .ref ax), (1, .int p0), (2, .int p1), (3, .int p2)] → W p l e rmX4_bestMean s m args below meth c H locs 0 0 Q (F0 m 132 ls []) := by
            intro e60_l7 e60_l9 e60_f1 H locs ls hs35 hP hD hS hl
            refine lv_iinc (v := (x35_l6 + 1)) (lv' := [(6, .int (x35_l6 + 1)), (9, .int e60_l9), (7, .long e60_l7), (4, .long (x35_l4 * 10)), (0, .ref ax), (1, .int p0), (2, .int p1), (3, .int p2)]) hx hb dX4_bestMean_132 hl (k := 3) rfl (by rfl) (by decide) rfl (fun ls hl => ?_)
            refine lv_goto (tgt := 35) hx hb dX4_bestMean_135 (by decide) ?_
            obtain rfl := Option.some.inj hs35
            exact ih35 _ _ _ _ _ _ hw35 hP hD hS (lv_sub hl [0, 3, 4, 5, 6, 7] rfl)
          have lp60 : ∀ (fu : Nat) (x60_l7 : Int64) (x60_l9 : Int32) (x60_f1 : Nat → Int64) (H : Heap) (locs : List Loc) (ls : Array Slot), wh (s_X4_bestMean_60 p2 x35_l4) fu (x60_l7, x60_l9, x60_f1) = some r7 → va_P D vwCl ((xoW ax zshop zyearShop zimages zsigns zdays alm vsgc) ++ (laW K alm 49 x60_f1)) H → va_D A ((xoW ax zshop zyearShop zimages zsigns zdays alm vsgc) ++ (laW K alm 49 x60_f1)) → va_S A H0 H locs → lv_has ls 14 [(9, .int x60_l9), (7, .long x60_l7), (4, .long (x35_l4 * 10)), (6, .int x35_l6), (0, .ref ax), (1, .int p0), (2, .int p1), (3, .int p2)] → W p l e rmX4_bestMean s m args below meth c H locs 0 0 Q (F0 m 60 ls []) := by
            intro fu
            induction fu with
            | zero => intro x60_l7 x60_l9 x60_f1 H locs ls hw60; cases hw60
            | succ fu ih60 =>
              intro x60_l7 x60_l9 x60_f1 H locs ls hw60 hP hD hS hl
              obtain ⟨o60_, hs60, hw60⟩ := wh_el hw60
              unfold s_X4_bestMean_60 at hs60
              dsimp only at hs60
              refine lv_iload hx hb dX4_bestMean_60 (lv_at hl 0 rfl) ?_
              refine lv_iconst (v := 1) hx hb dX4_bestMean_62 (by decide) ?_
              refine lv_iadd hx hb dX4_bestMean_63 ?_
              refine lv_aload_n hx hb dX4_bestMean_64 rfl (lv_at hl 4 rfl) ?_
              refine va_get (D := D) (ci := 4) (v := .ref alm) (C := RX4) (T := TX4) (N := 7) hx hb hts inX4_bestMean_X4 hown hK hP 0 rfl rfl 6 (by decide) (hts (.fieldLink RX4 38 "WordScales" "means" "[J") (List.mem_of_getElem? (i := 1) rfl)) (fun _ h9 => h9) rfl dX4_bestMean_65 ?_
              refine va_alen (D := D) (v := 49) hx hb hK hP 1 1 rfl rfl rfl dX4_bestMean_68 ?_
              refine lv_icmp_ge (tgt := 132) hx hb dX4_bestMean_69 (by decide) (fun c8 => ?_) (fun c8 => ?_)
              · rw [if_pos c8] at hs60
                obtain rfl := Option.some.inj hs60
                have e9 := Option.some.inj hw60
                rw [← e9] at hs35
                exact post60 _ _ _ _ _ _ hs35 hP hD hS (lv_sub hl [0, 1, 2, 3, 4, 5, 6, 7] rfl)
              · rw [if_neg c8] at hs60
                refine lv_aload_n hx hb dX4_bestMean_72 rfl (lv_at hl 4 rfl) ?_
                refine va_get (D := D) (ci := 4) (v := .ref alm) (C := RX4) (T := TX4) (N := 7) hx hb hts inX4_bestMean_X4 hown hK hP 0 rfl rfl 6 (by decide) (hts (.fieldLink RX4 38 "WordScales" "means" "[J") (List.mem_of_getElem? (i := 1) rfl)) (fun _ h9 => h9) rfl dX4_bestMean_73 ?_
                refine lv_iload hx hb dX4_bestMean_76 (lv_at hl 0 rfl) ?_
                obtain ⟨v9, hs60⟩ := chk_el hs60
                refine va_lald (D := D) (f := x60_f1) hx hb hK hP 1 1 rfl rfl v9 dX4_bestMean_78 ?_
                refine lv_lstore (lv' := [(10, .long (x60_f1 (x60_l9).toNatClampNeg)), (9, .int x60_l9), (7, .long x60_l7), (4, .long (x35_l4 * 10)), (6, .int x35_l6), (0, .ref ax), (1, .int p0), (2, .int p1), (3, .int p2)]) hx hb dX4_bestMean_79 hl (by decide) rfl (fun ls hl => ?_)
                refine lv_iload_n hx hb dX4_bestMean_81 rfl (lv_at hl 8 rfl) ?_
                refine lv_i2l (v := p2.toInt64) hx hb dX4_bestMean_82 rfl ?_
                refine lv_aload_n hx hb dX4_bestMean_83 rfl (lv_at hl 5 rfl) ?_
                refine va_get (D := D) (ci := 4) (v := .ref alm) (C := RX4) (T := TX4) (N := 7) hx hb hts inX4_bestMean_X4 hown hK hP 0 rfl rfl 6 (by decide) (hts (.fieldLink RX4 38 "WordScales" "means" "[J") (List.mem_of_getElem? (i := 1) rfl)) (fun _ h9 => h9) rfl dX4_bestMean_84 ?_
                refine lv_iload hx hb dX4_bestMean_87 (lv_at hl 1 rfl) ?_
                refine lv_iconst (v := 1) hx hb dX4_bestMean_89 (by decide) ?_
                refine lv_iadd hx hb dX4_bestMean_90 ?_
                obtain ⟨v10, hs60⟩ := chk_el hs60
                refine va_lald (D := D) (f := x60_f1) hx hb hK hP 1 1 rfl rfl v10 dX4_bestMean_91 ?_
                refine lv_lmul hx hb dX4_bestMean_92 ?_
                refine lv_bipush (v := 10) hx hb dX4_bestMean_93 (by decide) ?_
                refine lv_iload_n hx hb dX4_bestMean_95 rfl (lv_at hl 8 rfl) ?_
                refine lv_isub hx hb dX4_bestMean_96 ?_
                refine lv_i2l (v := (10 - p2).toInt64) hx hb dX4_bestMean_97 rfl ?_
                refine lv_lload hx hb dX4_bestMean_98 (lv_at hl 2 rfl) ?_
                refine lv_lmul hx hb dX4_bestMean_100 ?_
                refine lv_ladd hx hb dX4_bestMean_101 ?_
                refine lv_lstore (lv' := [(12, .long ((p2.toInt64 * (x60_f1 ((x60_l9 + 1)).toNatClampNeg)) + ((10 - p2).toInt64 * x60_l7))), (10, .long (x60_f1 (x60_l9).toNatClampNeg)), (9, .int x60_l9), (7, .long x60_l7), (4, .long (x35_l4 * 10)), (6, .int x35_l6), (0, .ref ax), (1, .int p0), (2, .int p1), (3, .int p2)]) hx hb dX4_bestMean_102 hl (by decide) rfl (fun ls hl => ?_)
                refine lv_aload_n hx hb dX4_bestMean_104 rfl (lv_at hl 6 rfl) ?_
                refine va_get (D := D) (ci := 4) (v := .ref alm) (C := RX4) (T := TX4) (N := 7) hx hb hts inX4_bestMean_X4 hown hK hP 0 rfl rfl 6 (by decide) (hts (.fieldLink RX4 38 "WordScales" "means" "[J") (List.mem_of_getElem? (i := 1) rfl)) (fun _ h9 => h9) rfl dX4_bestMean_105 ?_
                refine lv_iload hx hb dX4_bestMean_108 (lv_at hl 2 rfl) ?_
                refine lv_iload hx hb dX4_bestMean_110 (lv_at hl 2 rfl) ?_
                refine lv_i2l (v := x60_l9.toInt64) hx hb dX4_bestMean_112 rfl ?_
                refine lv_lload hx hb dX4_bestMean_113 (lv_at hl 4 rfl) ?_
                refine lv_lmul hx hb dX4_bestMean_115 ?_
                refine lv_lload hx hb dX4_bestMean_116 (lv_at hl 0 rfl) ?_
                refine va_mmax_long hx hb (hml.trans hl.1.symm) hown (hts (.methodLink RX4 228 Lib.MathLoose.max_long.x) (List.mem_of_getElem? (i := 3) rfl)) (hts (.static Lib.MathLoose.max_long.x) (List.mem_of_getElem? (i := 4) rfl)) (hts (.initialized "java/lang/Math") (List.mem_of_getElem? (i := 5) rfl)) (hts (.code Lib.MathLoose.max_long.x Lib.MathLoose.max_long.code 4 (some .long)) (List.mem_of_getElem? (i := 6) rfl)) (Nat.le_of_ble_eq_true rfl) (Nat.le_of_ble_eq_true rfl) (Nat.le_of_ble_eq_true rfl) (Nat.le_of_ble_eq_true rfl) dX4_bestMean_118 ?_
                refine va_last (D := D) (f := x60_f1) hx hb hK hP hD hS 1 1 rfl rfl v9 dX4_bestMean_121 (fun H locs hP hD hS => ?_)
                have hP : va_P D vwCl ((xoW ax zshop zyearShop zimages zsigns zdays alm vsgc) ++ (laW K alm 49 (vp_updL x60_f1 (x60_l9).toNatClampNeg (if ((p2.toInt64 * (x60_f1 ((x60_l9 + 1)).toNatClampNeg)) + ((10 - p2).toInt64 * x60_l7)) < (x60_l9.toInt64 * (x35_l4 * 10)) then (x60_l9.toInt64 * (x35_l4 * 10)) else ((p2.toInt64 * (x60_f1 ((x60_l9 + 1)).toNatClampNeg)) + ((10 - p2).toInt64 * x60_l7)))))) H := hP
                have hD : va_D A ((xoW ax zshop zyearShop zimages zsigns zdays alm vsgc) ++ (laW K alm 49 (vp_updL x60_f1 (x60_l9).toNatClampNeg (if ((p2.toInt64 * (x60_f1 ((x60_l9 + 1)).toNatClampNeg)) + ((10 - p2).toInt64 * x60_l7)) < (x60_l9.toInt64 * (x35_l4 * 10)) then (x60_l9.toInt64 * (x35_l4 * 10)) else ((p2.toInt64 * (x60_f1 ((x60_l9 + 1)).toNatClampNeg)) + ((10 - p2).toInt64 * x60_l7)))))) := hD
                refine lv_lload hx hb dX4_bestMean_122 (lv_at hl 1 rfl) ?_
                refine lv_lstore (lv' := [(7, .long (x60_f1 (x60_l9).toNatClampNeg)), (12, .long ((p2.toInt64 * (x60_f1 ((x60_l9 + 1)).toNatClampNeg)) + ((10 - p2).toInt64 * x60_l7))), (10, .long (x60_f1 (x60_l9).toNatClampNeg)), (9, .int x60_l9), (4, .long (x35_l4 * 10)), (6, .int x35_l6), (0, .ref ax), (1, .int p0), (2, .int p1), (3, .int p2)]) hx hb dX4_bestMean_124 hl (by decide) rfl (fun ls hl => ?_)
                refine lv_iinc (v := (x60_l9 + 1)) (lv' := [(9, .int (x60_l9 + 1)), (7, .long (x60_f1 (x60_l9).toNatClampNeg)), (12, .long ((p2.toInt64 * (x60_f1 ((x60_l9 + 1)).toNatClampNeg)) + ((10 - p2).toInt64 * x60_l7))), (10, .long (x60_f1 (x60_l9).toNatClampNeg)), (4, .long (x35_l4 * 10)), (6, .int x35_l6), (0, .ref ax), (1, .int p0), (2, .int p1), (3, .int p2)]) hx hb dX4_bestMean_126 hl (k := 3) rfl (by rfl) (by decide) rfl (fun ls hl => ?_)
                refine lv_goto (tgt := 60) hx hb dX4_bestMean_129 (by decide) ?_
                obtain rfl := Option.some.inj hs60
                exact ih60 _ _ _ _ _ _ hw60 hP hD hS (lv_sub hl [0, 1, 4, 5, 6, 7, 8, 9] rfl)
          exact lp60 5000 _ _ _ _ _ _ hr7 hP hD hS (lv_sub hl [0, 1, 2, 3, 4, 5, 6, 7] rfl)
    exact lp35 5000 _ _ _ _ _ _ hr2 hP hD hS (lv_sub hl [0, 1, 2, 3, 4, 5] rfl)
  have lp3 : ∀ (fu : Nat) (x3_l4 : Int32) (x3_f1 : Nat → Int64) (H : Heap) (locs : List Loc) (ls : Array Slot), wh (s_X4_bestMean_3) fu (x3_l4, x3_f1) = some r1 → va_P D vwCl ((xoW ax zshop zyearShop zimages zsigns zdays alm vsgc) ++ (laW K alm 49 x3_f1)) H → va_D A ((xoW ax zshop zyearShop zimages zsigns zdays alm vsgc) ++ (laW K alm 49 x3_f1)) → va_S A H0 H locs → lv_has ls 14 [(4, .int x3_l4), (0, .ref ax), (1, .int p0), (2, .int p1), (3, .int p2)] → W p l e rmX4_bestMean s m args below meth c H locs 0 0 Q (F0 m 3 ls []) := by
    intro fu
    induction fu with
    | zero => intro x3_l4 x3_f1 H locs ls hw3; cases hw3
    | succ fu ih3 =>
      intro x3_l4 x3_f1 H locs ls hw3 hP hD hS hl
      obtain ⟨o3_, hs3, hw3⟩ := wh_el hw3
      unfold s_X4_bestMean_3 at hs3
      dsimp only at hs3
      refine lv_iload hx hb dX4_bestMean_3 (lv_at hl 0 rfl) ?_
      refine lv_aload_n hx hb dX4_bestMean_5 rfl (lv_at hl 1 rfl) ?_
      refine va_get (D := D) (ci := 4) (v := .ref alm) (C := RX4) (T := TX4) (N := 7) hx hb hts inX4_bestMean_X4 hown hK hP 0 rfl rfl 6 (by decide) (hts (.fieldLink RX4 38 "WordScales" "means" "[J") (List.mem_of_getElem? (i := 1) rfl)) (fun _ h9 => h9) rfl dX4_bestMean_6 ?_
      refine va_alen (D := D) (v := 49) hx hb hK hP 1 1 rfl rfl rfl dX4_bestMean_9 ?_
      refine lv_icmp_ge (tgt := 29) hx hb dX4_bestMean_10 (by decide) (fun c11 => ?_) (fun c11 => ?_)
      · rw [if_pos c11] at hs3
        obtain rfl := Option.some.inj hs3
        have e9 := Option.some.inj hw3
        rw [← e9] at hf
        exact post3 _ _ _ _ _ hf hP hD hS (lv_sub hl [0, 1, 2, 3, 4] rfl)
      · rw [if_neg c11] at hs3
        refine lv_aload_n hx hb dX4_bestMean_13 rfl (lv_at hl 1 rfl) ?_
        refine va_get (D := D) (ci := 4) (v := .ref alm) (C := RX4) (T := TX4) (N := 7) hx hb hts inX4_bestMean_X4 hown hK hP 0 rfl rfl 6 (by decide) (hts (.fieldLink RX4 38 "WordScales" "means" "[J") (List.mem_of_getElem? (i := 1) rfl)) (fun _ h9 => h9) rfl dX4_bestMean_14 ?_
        refine lv_iload hx hb dX4_bestMean_17 (lv_at hl 0 rfl) ?_
        refine lv_iload hx hb dX4_bestMean_19 (lv_at hl 0 rfl) ?_
        refine lv_i2l (v := x3_l4.toInt64) hx hb dX4_bestMean_21 rfl ?_
        obtain ⟨v12, hs3⟩ := chk_el hs3
        refine va_last (D := D) (f := x3_f1) hx hb hK hP hD hS 1 1 rfl rfl v12 dX4_bestMean_22 (fun H locs hP hD hS => ?_)
        have hP : va_P D vwCl ((xoW ax zshop zyearShop zimages zsigns zdays alm vsgc) ++ (laW K alm 49 (vp_updL x3_f1 (x3_l4).toNatClampNeg x3_l4.toInt64))) H := hP
        have hD : va_D A ((xoW ax zshop zyearShop zimages zsigns zdays alm vsgc) ++ (laW K alm 49 (vp_updL x3_f1 (x3_l4).toNatClampNeg x3_l4.toInt64))) := hD
        refine lv_iinc (v := (x3_l4 + 1)) (lv' := [(4, .int (x3_l4 + 1)), (0, .ref ax), (1, .int p0), (2, .int p1), (3, .int p2)]) hx hb dX4_bestMean_23 hl (k := 0) rfl (by rfl) (by decide) rfl (fun ls hl => ?_)
        refine lv_goto (tgt := 3) hx hb dX4_bestMean_26 (by decide) ?_
        obtain rfl := Option.some.inj hs3
        exact ih3 _ _ _ _ _ hw3 hP hD hS (lv_sub hl [0, 1, 2, 3, 4] rfl)
  exact lp3 5000 _ _ _ _ _ hr1 hP hD hS (lv_sub hl [0, 1, 2, 3, 4] rfl)
def s_X4_weather_110 (p1 : Int32) (x : Int64 × Int64 × Int32) : Option ((Int64 × Int64 × Int32) ⊕ (Int64 × Int64 × Int32)) := if p1 ≤ x.2.2 then (some (.inr (x.1, x.2.1, x.2.2))) else (if (lg_cmp (x.1 - x.1 / 2 * 2) 0) = 0 then (if (lg_cmp (x.2.1 - x.2.1 / 2 * 2) 0) = 0 then (if (lg_cmp ((x.1 / 2) - (x.1 / 2) / 5 * 5) 0) = 0 then (if (lg_cmp ((x.2.1 / 2) - (x.2.1 / 2) / 5 * 5) 0) = 0 then (some (.inl (((x.1 / 2) / 5), ((x.2.1 / 2) / 5), (x.2.2 + 1)))) else (some (.inl ((x.1 / 2), (x.2.1 / 2), (x.2.2 + 1))))) else (some (.inl ((x.1 / 2), (x.2.1 / 2), (x.2.2 + 1))))) else (if (lg_cmp (x.1 - x.1 / 5 * 5) 0) = 0 then (if (lg_cmp (x.2.1 - x.2.1 / 5 * 5) 0) = 0 then (some (.inl ((x.1 / 5), (x.2.1 / 5), (x.2.2 + 1)))) else (some (.inl (x.1, x.2.1, (x.2.2 + 1))))) else (some (.inl (x.1, x.2.1, (x.2.2 + 1)))))) else (if (lg_cmp (x.1 - x.1 / 5 * 5) 0) = 0 then (if (lg_cmp (x.2.1 - x.2.1 / 5 * 5) 0) = 0 then (some (.inl ((x.1 / 5), (x.2.1 / 5), (x.2.2 + 1)))) else (some (.inl (x.1, x.2.1, (x.2.2 + 1))))) else (some (.inl (x.1, x.2.1, (x.2.2 + 1))))))
def f_X4_weather (vfm : Nat → Int64) (p0 : Int32) (p1 : Int32) (p2 : Int32) (p3 : Int32) (p4 : Int32) : Option (Int64 × (Nat → Int64)) := bd (f_X4_isWithin p0 (0) (40)) (fun o1 => if o1 = 0 then (some ((-1000000000000000002), vfm)) else (bd (f_X4_isWithin p1 (0) (8)) (fun o4 => if o4 = 0 then (some ((-1000000000000000002), vfm)) else (bd (f_X4_isWithin p2 (0) (10)) (fun o7 => if o7 = 0 then (some ((-1000000000000000002), vfm)) else (bd (f_X4_isWithin p3 (0) (1)) (fun o11 => if o11 = 0 then (some ((-1000000000000000002), vfm)) else (bd (f_X4_isWithin p4 (0) (1)) (fun o13 => if o13 = 0 then (some ((-1000000000000000002), vfm)) else (ob (f_X4_bestMean vfm p0 p1 p2) (fun o15 => ob (f_X4_power (10) p1) (fun o16 => if p3 = 1 then (if (lg_cmp o15.1 (p0.toInt64 * o16)) = 0 then (some (1, o15.2)) else (some (0, o15.2))) else (ob (wh (s_X4_weather_110 p1) 5000 (o15.1, o16, 0)) (fun r18 => if p4 = 0 then (some (r18.1, o15.2)) else (some (r18.2.1, o15.2))))))))))))))))
theorem yd_X4_weather : yX4_weather.cls ≠ "java/lang/invoke/MethodHandle" ∧ yX4_weather.cls ≠ "java/lang/invoke/VarHandle" ∧ (parseMethodDescriptor yX4_weather.desc).map (fun d => d.parameters.length) = some 5 := by decide +kernel
abbrev rmX4_weather : Room := { frames := 2, cells := 0, slots := 0, locals := 58 }
set_option maxHeartbeats 4000000 in
set_option maxRecDepth 100000 in
theorem k_X4_weather (l : Launch) (D : va_G) (K : Nat → ClassId) (ax : Nat) (alm : Nat) (zshop : Nat) (zyearShop : Nat) (zimages : Nat) (zsigns : Nat) (zdays : Nat) (vsgc : Int32) (vfm : Nat → Int64) (p0 : Int32) (p1 : Int32) (p2 : Int32) (p3 : Int32) (p4 : Int32) (out : Int64 × (Nat → Int64)) (hf : f_X4_weather vfm p0 p1 p2 p3 p4 = some out) : kL l D K yX4_weather wsX4_weather rmX4_weather [.ref ax, .int p0, .int p1, .int p2, .int p3, .int p4] ((xoW ax zshop zyearShop zimages zsigns zdays alm vsgc) ++ (laW K alm 49 vfm)) out.1 ((xoW ax zshop zyearShop zimages zsigns zdays alm vsgc) ++ (laW K alm 49 out.2)) := by
  refine kL.of (cc := cX4_weather) (maxL := 12) (by decide) rfl (Nat.le_of_ble_eq_true rfl) ?_
  intro p e s m args below meth c A H0 Q ls hx hb hml hown hts hK hN hA hP hD hS hl hret
  have hown : s.vm.findClass RX4 = some m.cls := hown
  have hl : lv_has ls 12 [(0, .ref ax), (1, .int p0), (2, .int p1), (3, .int p2), (4, .int p3), (5, .int p4)] := hl
  generalize hH : H0 = H at hP ⊢
  have hS : va_S A H0 H [] := by rw [← hH]; exact hS
  clear hH
  unfold f_X4_weather at hf
  refine lv_iload_n hx hb dX4_weather_0 rfl (lv_at hl 1 rfl) ?_
  refine lv_iconst (v := 0) hx hb dX4_weather_1 (by decide) ?_
  refine lv_bipush (v := 40) hx hb dX4_weather_2 (by decide) ?_
  obtain ⟨o1, ho1, hf⟩ := bd_el hf
  refine kc0_i (D := D) (va_runS (As := [.int p0, .int 0, .int 40]) (rest := []) ⟨hx, hb, hml, hown, hts⟩ ((k_X4_isWithin l D K p0 (0) (40) o1 ho1) H.size) (va_cwS 3 hts gX4_weather_X4_isWithin rfl rfl rfl yd_X4_isWithin ⟨Nat.le_of_ble_eq_true rfl, Nat.le_of_ble_eq_true rfl⟩) (kPreS va_P_nil (va_D_nil (A := fun _ => True)) hK hN) rfl rfl hl.1 rfl (lv_room (Nat.le_of_ble_eq_true rfl)) dX4_weather_4 ⟨Nat.le_of_ble_eq_true rfl, Nat.le_of_ble_eq_true rfl⟩) hP hS hA (fun hzo1 H locs hP hS => ?_)
  refine lv_if_eq (tgt := 34) hx hb dX4_weather_7 (by decide) (fun c2 => ?_) (fun c2 => ?_)
  · rw [if_pos c2] at hf
    refine lv_iconst (v := 0) hx hb dX4_weather_34 (by decide) ?_
    refine lv_istore (lv' := [(6, .int 0), (0, .ref ax), (1, .int p0), (2, .int p1), (3, .int p2), (4, .int p3), (5, .int p4)]) hx hb dX4_weather_35 hl (by decide) rfl (fun ls hl => ?_)
    refine lv_iload hx hb dX4_weather_37 (lv_at hl 0 rfl) ?_
    refine lv_if_eq (tgt := 62) hx hb dX4_weather_39 (by decide) (fun c3 => ?_) (fun c3 => ?_)
    · skip
      refine lv_ldc2 hx hb hown (hts (.constantLong RX4 182 (-1000000000000000002)) (List.mem_of_getElem? (i := 1) rfl)) dX4_weather_62 ?_
      obtain rfl := Option.some.inj hf
      exact hret rfl rfl hP hD hS dX4_weather_65
    · exact absurd (by decide : (0 : Int32) = 0) c3
  · rw [if_neg c2] at hf
    refine lv_iload_n hx hb dX4_weather_10 rfl (lv_at hl 2 rfl) ?_
    refine lv_iconst (v := 0) hx hb dX4_weather_11 (by decide) ?_
    refine lv_bipush (v := 8) hx hb dX4_weather_12 (by decide) ?_
    obtain ⟨o4, ho4, hf⟩ := bd_el hf
    refine kc0_i (D := D) (va_runS (As := [.int p1, .int 0, .int 8]) (rest := []) ⟨hx, hb, hml, hown, hts⟩ ((k_X4_isWithin l D K p1 (0) (8) o4 ho4) H.size) (va_cwS 3 hts gX4_weather_X4_isWithin rfl rfl rfl yd_X4_isWithin ⟨Nat.le_of_ble_eq_true rfl, Nat.le_of_ble_eq_true rfl⟩) (kPreS va_P_nil (va_D_nil (A := fun _ => True)) hK hN) rfl rfl hl.1 rfl (lv_room (Nat.le_of_ble_eq_true rfl)) dX4_weather_14 ⟨Nat.le_of_ble_eq_true rfl, Nat.le_of_ble_eq_true rfl⟩) hP hS hA (fun hzo4 H locs hP hS => ?_)
    refine lv_if_eq (tgt := 34) hx hb dX4_weather_17 (by decide) (fun c5 => ?_) (fun c5 => ?_)
    · rw [if_pos c5] at hf
      refine lv_iconst (v := 0) hx hb dX4_weather_34 (by decide) ?_
      refine lv_istore (lv' := [(6, .int 0), (0, .ref ax), (1, .int p0), (2, .int p1), (3, .int p2), (4, .int p3), (5, .int p4)]) hx hb dX4_weather_35 hl (by decide) rfl (fun ls hl => ?_)
      refine lv_iload hx hb dX4_weather_37 (lv_at hl 0 rfl) ?_
      refine lv_if_eq (tgt := 62) hx hb dX4_weather_39 (by decide) (fun c6 => ?_) (fun c6 => ?_)
      · skip
        refine lv_ldc2 hx hb hown (hts (.constantLong RX4 182 (-1000000000000000002)) (List.mem_of_getElem? (i := 1) rfl)) dX4_weather_62 ?_
        obtain rfl := Option.some.inj hf
        exact hret rfl rfl hP hD hS dX4_weather_65
      · exact absurd (by decide : (0 : Int32) = 0) c6
    · rw [if_neg c5] at hf
      refine lv_iload_n hx hb dX4_weather_20 rfl (lv_at hl 3 rfl) ?_
      refine lv_iconst (v := 0) hx hb dX4_weather_21 (by decide) ?_
      refine lv_bipush (v := 10) hx hb dX4_weather_22 (by decide) ?_
      obtain ⟨o7, ho7, hf⟩ := bd_el hf
      refine kc0_i (D := D) (va_runS (As := [.int p2, .int 0, .int 10]) (rest := []) ⟨hx, hb, hml, hown, hts⟩ ((k_X4_isWithin l D K p2 (0) (10) o7 ho7) H.size) (va_cwS 3 hts gX4_weather_X4_isWithin rfl rfl rfl yd_X4_isWithin ⟨Nat.le_of_ble_eq_true rfl, Nat.le_of_ble_eq_true rfl⟩) (kPreS va_P_nil (va_D_nil (A := fun _ => True)) hK hN) rfl rfl hl.1 rfl (lv_room (Nat.le_of_ble_eq_true rfl)) dX4_weather_24 ⟨Nat.le_of_ble_eq_true rfl, Nat.le_of_ble_eq_true rfl⟩) hP hS hA (fun hzo7 H locs hP hS => ?_)
      refine lv_if_eq (tgt := 34) hx hb dX4_weather_27 (by decide) (fun c8 => ?_) (fun c8 => ?_)
      · rw [if_pos c8] at hf
        refine lv_iconst (v := 0) hx hb dX4_weather_34 (by decide) ?_
        refine lv_istore (lv' := [(6, .int 0), (0, .ref ax), (1, .int p0), (2, .int p1), (3, .int p2), (4, .int p3), (5, .int p4)]) hx hb dX4_weather_35 hl (by decide) rfl (fun ls hl => ?_)
        refine lv_iload hx hb dX4_weather_37 (lv_at hl 0 rfl) ?_
        refine lv_if_eq (tgt := 62) hx hb dX4_weather_39 (by decide) (fun c9 => ?_) (fun c9 => ?_)
        · skip
          refine lv_ldc2 hx hb hown (hts (.constantLong RX4 182 (-1000000000000000002)) (List.mem_of_getElem? (i := 1) rfl)) dX4_weather_62 ?_
          obtain rfl := Option.some.inj hf
          exact hret rfl rfl hP hD hS dX4_weather_65
        · exact absurd (by decide : (0 : Int32) = 0) c9
      · rw [if_neg c8] at hf
        refine lv_iconst (v := 1) hx hb dX4_weather_30 (by decide) ?_
        refine lv_goto (tgt := 35) hx hb dX4_weather_31 (by decide) ?_
        refine lv_istore (lv' := [(6, .int 1), (0, .ref ax), (1, .int p0), (2, .int p1), (3, .int p2), (4, .int p3), (5, .int p4)]) hx hb dX4_weather_35 hl (by decide) rfl (fun ls hl => ?_)
        refine lv_iload hx hb dX4_weather_37 (lv_at hl 0 rfl) ?_
        refine lv_if_eq (tgt := 62) hx hb dX4_weather_39 (by decide) (fun c10 => ?_) (fun c10 => ?_)
        · exact absurd c10 (by decide : ¬ (1 : Int32) = 0)
        · skip
          refine lv_iload hx hb dX4_weather_42 (lv_at hl 5 rfl) ?_
          refine lv_iconst (v := 0) hx hb dX4_weather_44 (by decide) ?_
          refine lv_iconst (v := 1) hx hb dX4_weather_45 (by decide) ?_
          obtain ⟨o11, ho11, hf⟩ := bd_el hf
          refine kc0_i (D := D) (va_runS (As := [.int p3, .int 0, .int 1]) (rest := []) ⟨hx, hb, hml, hown, hts⟩ ((k_X4_isWithin l D K p3 (0) (1) o11 ho11) H.size) (va_cwS 3 hts gX4_weather_X4_isWithin rfl rfl rfl yd_X4_isWithin ⟨Nat.le_of_ble_eq_true rfl, Nat.le_of_ble_eq_true rfl⟩) (kPreS va_P_nil (va_D_nil (A := fun _ => True)) hK hN) rfl rfl hl.1 rfl (lv_room (Nat.le_of_ble_eq_true rfl)) dX4_weather_46 ⟨Nat.le_of_ble_eq_true rfl, Nat.le_of_ble_eq_true rfl⟩) hP hS hA (fun hzo11 H locs hP hS => ?_)
          refine lv_if_eq (tgt := 62) hx hb dX4_weather_49 (by decide) (fun c12 => ?_) (fun c12 => ?_)
          · rw [if_pos c12] at hf
            refine lv_ldc2 hx hb hown (hts (.constantLong RX4 182 (-1000000000000000002)) (List.mem_of_getElem? (i := 1) rfl)) dX4_weather_62 ?_
            obtain rfl := Option.some.inj hf
            exact hret rfl rfl hP hD hS dX4_weather_65
          · rw [if_neg c12] at hf
            refine lv_iload hx hb dX4_weather_52 (lv_at hl 6 rfl) ?_
            refine lv_iconst (v := 0) hx hb dX4_weather_54 (by decide) ?_
            refine lv_iconst (v := 1) hx hb dX4_weather_55 (by decide) ?_
            obtain ⟨o13, ho13, hf⟩ := bd_el hf
            refine kc0_i (D := D) (va_runS (As := [.int p4, .int 0, .int 1]) (rest := []) ⟨hx, hb, hml, hown, hts⟩ ((k_X4_isWithin l D K p4 (0) (1) o13 ho13) H.size) (va_cwS 3 hts gX4_weather_X4_isWithin rfl rfl rfl yd_X4_isWithin ⟨Nat.le_of_ble_eq_true rfl, Nat.le_of_ble_eq_true rfl⟩) (kPreS va_P_nil (va_D_nil (A := fun _ => True)) hK hN) rfl rfl hl.1 rfl (lv_room (Nat.le_of_ble_eq_true rfl)) dX4_weather_56 ⟨Nat.le_of_ble_eq_true rfl, Nat.le_of_ble_eq_true rfl⟩) hP hS hA (fun hzo13 H locs hP hS => ?_)
            refine lv_if_ne (tgt := 66) hx hb dX4_weather_59 (by decide) (fun c14 => ?_) (fun c14 => ?_)
            · rw [if_neg c14] at hf
              refine lv_aload_n hx hb dX4_weather_66 rfl (lv_at hl 1 rfl) ?_
              refine lv_iload_n hx hb dX4_weather_67 rfl (lv_at hl 2 rfl) ?_
              refine lv_iload_n hx hb dX4_weather_68 rfl (lv_at hl 3 rfl) ?_
              refine lv_iload_n hx hb dX4_weather_69 rfl (lv_at hl 4 rfl) ?_
              obtain ⟨o15, ho15, hf⟩ := ob_el hf
              refine kcw_l (D := D) (va_runV (As := [.int p0, .int p1, .int p2]) (rest := []) ⟨hx, hb, hml, hown, hts⟩ ((k_X4_bestMean l D K ax alm zshop zyearShop zimages zsigns zdays vsgc vfm p0 p1 p2 o15 ho15) H.size) (cwV 3 hts gX4_weather_X4_bestMean rfl rfl rfl ⟨rfl, yd_X4_bestMean⟩ ⟨Nat.le_of_ble_eq_true rfl, Nat.le_of_ble_eq_true rfl⟩) (kPreV (ci := 4) (q0 := 0) hP rfl rfl hP hD hK hN) rfl rfl hl.1 rfl (lv_room (Nat.le_of_ble_eq_true rfl)) dX4_weather_70 ⟨Nat.le_of_ble_eq_true rfl, Nat.le_of_ble_eq_true rfl⟩) hD hS hA (fun H locs hP hD hS => ?_)
              have hP : va_P D vwCl ((xoW ax zshop zyearShop zimages zsigns zdays alm vsgc) ++ (laW K alm 49 o15.2)) H := hP
              have hD : va_D A ((xoW ax zshop zyearShop zimages zsigns zdays alm vsgc) ++ (laW K alm 49 o15.2)) := hD
              refine lv_lstore (lv' := [(7, .long o15.1), (6, .int 1), (0, .ref ax), (1, .int p0), (2, .int p1), (3, .int p2), (4, .int p3), (5, .int p4)]) hx hb dX4_weather_73 hl (by decide) rfl (fun ls hl => ?_)
              refine lv_ldc2 hx hb hown (hts (.constantLong RX4 188 (10)) (List.mem_of_getElem? (i := 2) rfl)) dX4_weather_75 ?_
              refine lv_iload_n hx hb dX4_weather_78 rfl (lv_at hl 4 rfl) ?_
              obtain ⟨o16, ho16, hf⟩ := ob_el hf
              refine kc0_l (D := D) (va_runS (As := [.long 10, .int p1]) (rest := []) ⟨hx, hb, hml, hown, hts⟩ ((k_X4_power l D K (10) p1 o16 ho16) H.size) (va_cwS 2 hts gX4_weather_X4_power rfl rfl rfl yd_X4_power ⟨Nat.le_of_ble_eq_true rfl, Nat.le_of_ble_eq_true rfl⟩) (kPreS va_P_nil (va_D_nil (A := fun _ => True)) hK hN) rfl rfl hl.1 rfl (lv_room (Nat.le_of_ble_eq_true rfl)) dX4_weather_79 ⟨Nat.le_of_ble_eq_true rfl, Nat.le_of_ble_eq_true rfl⟩) hP hS hA (fun H locs hP hS => ?_)
              refine lv_lstore (lv' := [(9, .long o16), (7, .long o15.1), (6, .int 1), (0, .ref ax), (1, .int p0), (2, .int p1), (3, .int p2), (4, .int p3), (5, .int p4)]) hx hb dX4_weather_82 hl (by decide) rfl (fun ls hl => ?_)
              refine lv_iload hx hb dX4_weather_84 (lv_at hl 7 rfl) ?_
              refine lv_iconst (v := 1) hx hb dX4_weather_86 (by decide) ?_
              refine lv_icmp_ne (tgt := 107) hx hb dX4_weather_87 (by decide) (fun c17 => ?_) (fun c17 => ?_)
              · rw [if_neg c17] at hf
                refine lv_iconst (v := 0) hx hb dX4_weather_107 (by decide) ?_
                refine lv_istore (lv' := [(11, .int 0), (9, .long o16), (7, .long o15.1), (6, .int 1), (0, .ref ax), (1, .int p0), (2, .int p1), (3, .int p2), (4, .int p3), (5, .int p4)]) hx hb dX4_weather_108 hl (by decide) rfl (fun ls hl => ?_)
                obtain ⟨r18, hr18, hf⟩ := ob_el hf
                have post110 : ∀ (e110_l7 : Int64) (e110_l9 : Int64) (e110_l11 : Int32) (H : Heap) (locs : List Loc) (ls : Array Slot), (if p4 = 0 then (some (e110_l7, o15.2)) else (some (e110_l9, o15.2))) = some out → va_P D vwCl ((xoW ax zshop zyearShop zimages zsigns zdays alm vsgc) ++ (laW K alm 49 o15.2)) H → va_D A ((xoW ax zshop zyearShop zimages zsigns zdays alm vsgc) ++ (laW K alm 49 o15.2)) → va_S A H0 H locs → lv_has ls 12 [(11, .int e110_l11), (9, .long e110_l9), (7, .long e110_l7), (6, .int 1), (0, .ref ax), (1, .int p0), (2, .int p1), (3, .int p2), (4, .int p3), (5, .int p4)] → W p l e rmX4_weather s m args below meth c H locs 0 0 Q (F0 m 198 ls []) := by
                  intro e110_l7 e110_l9 e110_l11 H locs ls hf hP hD hS hl
                  refine lv_iload hx hb dX4_weather_198 (lv_at hl 9 rfl) ?_
                  refine lv_if_ne (tgt := 208) hx hb dX4_weather_200 (by decide) (fun c19 => ?_) (fun c19 => ?_)
                  · rw [if_neg c19] at hf
                    refine lv_lload hx hb dX4_weather_208 (lv_at hl 1 rfl) ?_
                    obtain rfl := Option.some.inj hf
                    exact hret rfl rfl hP hD hS dX4_weather_210
                  · rw [if_pos c19] at hf
                    refine lv_lload hx hb dX4_weather_203 (lv_at hl 2 rfl) ?_
                    refine lv_goto (tgt := 210) hx hb dX4_weather_205 (by decide) ?_
                    obtain rfl := Option.some.inj hf
                    exact hret rfl rfl hP hD hS dX4_weather_210
                have lp110 : ∀ (fu : Nat) (x110_l7 : Int64) (x110_l9 : Int64) (x110_l11 : Int32) (H : Heap) (locs : List Loc) (ls : Array Slot), wh (s_X4_weather_110 p1) fu (x110_l7, x110_l9, x110_l11) = some r18 → va_P D vwCl ((xoW ax zshop zyearShop zimages zsigns zdays alm vsgc) ++ (laW K alm 49 o15.2)) H → va_D A ((xoW ax zshop zyearShop zimages zsigns zdays alm vsgc) ++ (laW K alm 49 o15.2)) → va_S A H0 H locs → lv_has ls 12 [(11, .int x110_l11), (9, .long x110_l9), (7, .long x110_l7), (6, .int 1), (0, .ref ax), (1, .int p0), (2, .int p1), (3, .int p2), (4, .int p3), (5, .int p4)] → W p l e rmX4_weather s m args below meth c H locs 0 0 Q (F0 m 110 ls []) := by
                  intro fu
                  induction fu with
                  | zero => intro x110_l7 x110_l9 x110_l11 H locs ls hw110; cases hw110
                  | succ fu ih110 =>
                    intro x110_l7 x110_l9 x110_l11 H locs ls hw110 hP hD hS hl
                    obtain ⟨o110_, hs110, hw110⟩ := wh_el hw110
                    unfold s_X4_weather_110 at hs110
                    dsimp only at hs110
                    refine lv_iload hx hb dX4_weather_110 (lv_at hl 0 rfl) ?_
                    refine lv_iload_n hx hb dX4_weather_112 rfl (lv_at hl 6 rfl) ?_
                    refine lv_icmp_ge (tgt := 198) hx hb dX4_weather_113 (by decide) (fun c20 => ?_) (fun c20 => ?_)
                    · rw [if_pos c20] at hs110
                      obtain rfl := Option.some.inj hs110
                      have e9 := Option.some.inj hw110
                      rw [← e9] at hf
                      exact post110 _ _ _ _ _ _ hf hP hD hS (lv_sub hl [0, 1, 2, 3, 4, 5, 6, 7, 8, 9] rfl)
                    · rw [if_neg c20] at hs110
                      refine lv_lload hx hb dX4_weather_116 (lv_at hl 2 rfl) ?_
                      refine lv_ldc2 hx hb hown (hts (.constantLong RX4 190 (2)) (List.mem_of_getElem? (i := 3) rfl)) dX4_weather_118 ?_
                      refine lv_lrem hx hb dX4_weather_121 (by decide) ?_
                      refine lv_lconst (v := 0) hx hb dX4_weather_122 (by decide) ?_
                      refine W.lcmp hx hb dX4_weather_123 ?_
                      refine lv_if_ne (tgt := 154) hx hb dX4_weather_124 (by decide) (fun c21 => ?_) (fun c21 => ?_)
                      · rw [if_neg c21] at hs110
                        refine lv_lload hx hb dX4_weather_154 (lv_at hl 2 rfl) ?_
                        refine lv_ldc2 hx hb hown (hts (.constantLong RX4 192 (5)) (List.mem_of_getElem? (i := 4) rfl)) dX4_weather_156 ?_
                        refine lv_lrem hx hb dX4_weather_159 (by decide) ?_
                        refine lv_lconst (v := 0) hx hb dX4_weather_160 (by decide) ?_
                        refine W.lcmp hx hb dX4_weather_161 ?_
                        refine lv_if_ne (tgt := 192) hx hb dX4_weather_162 (by decide) (fun c22 => ?_) (fun c22 => ?_)
                        · rw [if_neg c22] at hs110
                          refine lv_iinc (v := (x110_l11 + 1)) (lv' := [(11, .int (x110_l11 + 1)), (9, .long x110_l9), (7, .long x110_l7), (6, .int 1), (0, .ref ax), (1, .int p0), (2, .int p1), (3, .int p2), (4, .int p3), (5, .int p4)]) hx hb dX4_weather_192 hl (k := 0) rfl (by rfl) (by decide) rfl (fun ls hl => ?_)
                          refine lv_goto (tgt := 110) hx hb dX4_weather_195 (by decide) ?_
                          obtain rfl := Option.some.inj hs110
                          exact ih110 _ _ _ _ _ _ hw110 hP hD hS (lv_sub hl [0, 1, 2, 3, 4, 5, 6, 7, 8, 9] rfl)
                        · rw [if_pos c22] at hs110
                          refine lv_lload hx hb dX4_weather_165 (lv_at hl 1 rfl) ?_
                          refine lv_ldc2 hx hb hown (hts (.constantLong RX4 192 (5)) (List.mem_of_getElem? (i := 4) rfl)) dX4_weather_167 ?_
                          refine lv_lrem hx hb dX4_weather_170 (by decide) ?_
                          refine lv_lconst (v := 0) hx hb dX4_weather_171 (by decide) ?_
                          refine W.lcmp hx hb dX4_weather_172 ?_
                          refine lv_if_ne (tgt := 192) hx hb dX4_weather_173 (by decide) (fun c23 => ?_) (fun c23 => ?_)
                          · rw [if_neg c23] at hs110
                            refine lv_iinc (v := (x110_l11 + 1)) (lv' := [(11, .int (x110_l11 + 1)), (9, .long x110_l9), (7, .long x110_l7), (6, .int 1), (0, .ref ax), (1, .int p0), (2, .int p1), (3, .int p2), (4, .int p3), (5, .int p4)]) hx hb dX4_weather_192 hl (k := 0) rfl (by rfl) (by decide) rfl (fun ls hl => ?_)
                            refine lv_goto (tgt := 110) hx hb dX4_weather_195 (by decide) ?_
                            obtain rfl := Option.some.inj hs110
                            exact ih110 _ _ _ _ _ _ hw110 hP hD hS (lv_sub hl [0, 1, 2, 3, 4, 5, 6, 7, 8, 9] rfl)
                          · rw [if_pos c23] at hs110
                            refine lv_lload hx hb dX4_weather_176 (lv_at hl 2 rfl) ?_
                            refine lv_ldc2 hx hb hown (hts (.constantLong RX4 192 (5)) (List.mem_of_getElem? (i := 4) rfl)) dX4_weather_178 ?_
                            refine lv_ldiv hx hb dX4_weather_181 (by decide) ?_
                            refine lv_lstore (lv' := [(7, .long (x110_l7 / 5)), (11, .int x110_l11), (9, .long x110_l9), (6, .int 1), (0, .ref ax), (1, .int p0), (2, .int p1), (3, .int p2), (4, .int p3), (5, .int p4)]) hx hb dX4_weather_182 hl (by decide) rfl (fun ls hl => ?_)
                            refine lv_lload hx hb dX4_weather_184 (lv_at hl 2 rfl) ?_
                            refine lv_ldc2 hx hb hown (hts (.constantLong RX4 192 (5)) (List.mem_of_getElem? (i := 4) rfl)) dX4_weather_186 ?_
                            refine lv_ldiv hx hb dX4_weather_189 (by decide) ?_
                            refine lv_lstore (lv' := [(9, .long (x110_l9 / 5)), (7, .long (x110_l7 / 5)), (11, .int x110_l11), (6, .int 1), (0, .ref ax), (1, .int p0), (2, .int p1), (3, .int p2), (4, .int p3), (5, .int p4)]) hx hb dX4_weather_190 hl (by decide) rfl (fun ls hl => ?_)
                            refine lv_iinc (v := (x110_l11 + 1)) (lv' := [(11, .int (x110_l11 + 1)), (9, .long (x110_l9 / 5)), (7, .long (x110_l7 / 5)), (6, .int 1), (0, .ref ax), (1, .int p0), (2, .int p1), (3, .int p2), (4, .int p3), (5, .int p4)]) hx hb dX4_weather_192 hl (k := 2) rfl (by rfl) (by decide) rfl (fun ls hl => ?_)
                            refine lv_goto (tgt := 110) hx hb dX4_weather_195 (by decide) ?_
                            obtain rfl := Option.some.inj hs110
                            exact ih110 _ _ _ _ _ _ hw110 hP hD hS (lv_sub hl [0, 1, 2, 3, 4, 5, 6, 7, 8, 9] rfl)
                      · rw [if_pos c21] at hs110
                        refine lv_lload hx hb dX4_weather_127 (lv_at hl 1 rfl) ?_
                        refine lv_ldc2 hx hb hown (hts (.constantLong RX4 190 (2)) (List.mem_of_getElem? (i := 3) rfl)) dX4_weather_129 ?_
                        refine lv_lrem hx hb dX4_weather_132 (by decide) ?_
                        refine lv_lconst (v := 0) hx hb dX4_weather_133 (by decide) ?_
                        refine W.lcmp hx hb dX4_weather_134 ?_
                        refine lv_if_ne (tgt := 154) hx hb dX4_weather_135 (by decide) (fun c24 => ?_) (fun c24 => ?_)
                        · rw [if_neg c24] at hs110
                          refine lv_lload hx hb dX4_weather_154 (lv_at hl 2 rfl) ?_
                          refine lv_ldc2 hx hb hown (hts (.constantLong RX4 192 (5)) (List.mem_of_getElem? (i := 4) rfl)) dX4_weather_156 ?_
                          refine lv_lrem hx hb dX4_weather_159 (by decide) ?_
                          refine lv_lconst (v := 0) hx hb dX4_weather_160 (by decide) ?_
                          refine W.lcmp hx hb dX4_weather_161 ?_
                          refine lv_if_ne (tgt := 192) hx hb dX4_weather_162 (by decide) (fun c25 => ?_) (fun c25 => ?_)
                          · rw [if_neg c25] at hs110
                            refine lv_iinc (v := (x110_l11 + 1)) (lv' := [(11, .int (x110_l11 + 1)), (9, .long x110_l9), (7, .long x110_l7), (6, .int 1), (0, .ref ax), (1, .int p0), (2, .int p1), (3, .int p2), (4, .int p3), (5, .int p4)]) hx hb dX4_weather_192 hl (k := 0) rfl (by rfl) (by decide) rfl (fun ls hl => ?_)
                            refine lv_goto (tgt := 110) hx hb dX4_weather_195 (by decide) ?_
                            obtain rfl := Option.some.inj hs110
                            exact ih110 _ _ _ _ _ _ hw110 hP hD hS (lv_sub hl [0, 1, 2, 3, 4, 5, 6, 7, 8, 9] rfl)
                          · rw [if_pos c25] at hs110
                            refine lv_lload hx hb dX4_weather_165 (lv_at hl 1 rfl) ?_
                            refine lv_ldc2 hx hb hown (hts (.constantLong RX4 192 (5)) (List.mem_of_getElem? (i := 4) rfl)) dX4_weather_167 ?_
                            refine lv_lrem hx hb dX4_weather_170 (by decide) ?_
                            refine lv_lconst (v := 0) hx hb dX4_weather_171 (by decide) ?_
                            refine W.lcmp hx hb dX4_weather_172 ?_
                            refine lv_if_ne (tgt := 192) hx hb dX4_weather_173 (by decide) (fun c26 => ?_) (fun c26 => ?_)
                            · rw [if_neg c26] at hs110
                              refine lv_iinc (v := (x110_l11 + 1)) (lv' := [(11, .int (x110_l11 + 1)), (9, .long x110_l9), (7, .long x110_l7), (6, .int 1), (0, .ref ax), (1, .int p0), (2, .int p1), (3, .int p2), (4, .int p3), (5, .int p4)]) hx hb dX4_weather_192 hl (k := 0) rfl (by rfl) (by decide) rfl (fun ls hl => ?_)
                              refine lv_goto (tgt := 110) hx hb dX4_weather_195 (by decide) ?_
                              obtain rfl := Option.some.inj hs110
                              exact ih110 _ _ _ _ _ _ hw110 hP hD hS (lv_sub hl [0, 1, 2, 3, 4, 5, 6, 7, 8, 9] rfl)
                            · rw [if_pos c26] at hs110
                              refine lv_lload hx hb dX4_weather_176 (lv_at hl 2 rfl) ?_
                              refine lv_ldc2 hx hb hown (hts (.constantLong RX4 192 (5)) (List.mem_of_getElem? (i := 4) rfl)) dX4_weather_178 ?_
                              refine lv_ldiv hx hb dX4_weather_181 (by decide) ?_
                              refine lv_lstore (lv' := [(7, .long (x110_l7 / 5)), (11, .int x110_l11), (9, .long x110_l9), (6, .int 1), (0, .ref ax), (1, .int p0), (2, .int p1), (3, .int p2), (4, .int p3), (5, .int p4)]) hx hb dX4_weather_182 hl (by decide) rfl (fun ls hl => ?_)
                              refine lv_lload hx hb dX4_weather_184 (lv_at hl 2 rfl) ?_
                              refine lv_ldc2 hx hb hown (hts (.constantLong RX4 192 (5)) (List.mem_of_getElem? (i := 4) rfl)) dX4_weather_186 ?_
                              refine lv_ldiv hx hb dX4_weather_189 (by decide) ?_
                              refine lv_lstore (lv' := [(9, .long (x110_l9 / 5)), (7, .long (x110_l7 / 5)), (11, .int x110_l11), (6, .int 1), (0, .ref ax), (1, .int p0), (2, .int p1), (3, .int p2), (4, .int p3), (5, .int p4)]) hx hb dX4_weather_190 hl (by decide) rfl (fun ls hl => ?_)
                              refine lv_iinc (v := (x110_l11 + 1)) (lv' := [(11, .int (x110_l11 + 1)), (9, .long (x110_l9 / 5)), (7, .long (x110_l7 / 5)), (6, .int 1), (0, .ref ax), (1, .int p0), (2, .int p1), (3, .int p2), (4, .int p3), (5, .int p4)]) hx hb dX4_weather_192 hl (k := 2) rfl (by rfl) (by decide) rfl (fun ls hl => ?_)
                              refine lv_goto (tgt := 110) hx hb dX4_weather_195 (by decide) ?_
                              obtain rfl := Option.some.inj hs110
                              exact ih110 _ _ _ _ _ _ hw110 hP hD hS (lv_sub hl [0, 1, 2, 3, 4, 5, 6, 7, 8, 9] rfl)
                        · rw [if_pos c24] at hs110
                          refine lv_lload hx hb dX4_weather_138 (lv_at hl 2 rfl) ?_
                          refine lv_ldc2 hx hb hown (hts (.constantLong RX4 190 (2)) (List.mem_of_getElem? (i := 3) rfl)) dX4_weather_140 ?_
                          refine lv_ldiv hx hb dX4_weather_143 (by decide) ?_
                          refine lv_lstore (lv' := [(7, .long (x110_l7 / 2)), (11, .int x110_l11), (9, .long x110_l9), (6, .int 1), (0, .ref ax), (1, .int p0), (2, .int p1), (3, .int p2), (4, .int p3), (5, .int p4)]) hx hb dX4_weather_144 hl (by decide) rfl (fun ls hl => ?_)
                          refine lv_lload hx hb dX4_weather_146 (lv_at hl 2 rfl) ?_
                          refine lv_ldc2 hx hb hown (hts (.constantLong RX4 190 (2)) (List.mem_of_getElem? (i := 3) rfl)) dX4_weather_148 ?_
                          refine lv_ldiv hx hb dX4_weather_151 (by decide) ?_
                          refine lv_lstore (lv' := [(9, .long (x110_l9 / 2)), (7, .long (x110_l7 / 2)), (11, .int x110_l11), (6, .int 1), (0, .ref ax), (1, .int p0), (2, .int p1), (3, .int p2), (4, .int p3), (5, .int p4)]) hx hb dX4_weather_152 hl (by decide) rfl (fun ls hl => ?_)
                          refine lv_lload hx hb dX4_weather_154 (lv_at hl 1 rfl) ?_
                          refine lv_ldc2 hx hb hown (hts (.constantLong RX4 192 (5)) (List.mem_of_getElem? (i := 4) rfl)) dX4_weather_156 ?_
                          refine lv_lrem hx hb dX4_weather_159 (by decide) ?_
                          refine lv_lconst (v := 0) hx hb dX4_weather_160 (by decide) ?_
                          refine W.lcmp hx hb dX4_weather_161 ?_
                          refine lv_if_ne (tgt := 192) hx hb dX4_weather_162 (by decide) (fun c27 => ?_) (fun c27 => ?_)
                          · rw [if_neg c27] at hs110
                            refine lv_iinc (v := (x110_l11 + 1)) (lv' := [(11, .int (x110_l11 + 1)), (9, .long (x110_l9 / 2)), (7, .long (x110_l7 / 2)), (6, .int 1), (0, .ref ax), (1, .int p0), (2, .int p1), (3, .int p2), (4, .int p3), (5, .int p4)]) hx hb dX4_weather_192 hl (k := 2) rfl (by rfl) (by decide) rfl (fun ls hl => ?_)
                            refine lv_goto (tgt := 110) hx hb dX4_weather_195 (by decide) ?_
                            obtain rfl := Option.some.inj hs110
                            exact ih110 _ _ _ _ _ _ hw110 hP hD hS (lv_sub hl [0, 1, 2, 3, 4, 5, 6, 7, 8, 9] rfl)
                          · rw [if_pos c27] at hs110
                            refine lv_lload hx hb dX4_weather_165 (lv_at hl 0 rfl) ?_
                            refine lv_ldc2 hx hb hown (hts (.constantLong RX4 192 (5)) (List.mem_of_getElem? (i := 4) rfl)) dX4_weather_167 ?_
                            refine lv_lrem hx hb dX4_weather_170 (by decide) ?_
                            refine lv_lconst (v := 0) hx hb dX4_weather_171 (by decide) ?_
                            refine W.lcmp hx hb dX4_weather_172 ?_
                            refine lv_if_ne (tgt := 192) hx hb dX4_weather_173 (by decide) (fun c28 => ?_) (fun c28 => ?_)
                            · rw [if_neg c28] at hs110
                              refine lv_iinc (v := (x110_l11 + 1)) (lv' := [(11, .int (x110_l11 + 1)), (9, .long (x110_l9 / 2)), (7, .long (x110_l7 / 2)), (6, .int 1), (0, .ref ax), (1, .int p0), (2, .int p1), (3, .int p2), (4, .int p3), (5, .int p4)]) hx hb dX4_weather_192 hl (k := 2) rfl (by rfl) (by decide) rfl (fun ls hl => ?_)
                              refine lv_goto (tgt := 110) hx hb dX4_weather_195 (by decide) ?_
                              obtain rfl := Option.some.inj hs110
                              exact ih110 _ _ _ _ _ _ hw110 hP hD hS (lv_sub hl [0, 1, 2, 3, 4, 5, 6, 7, 8, 9] rfl)
                            · rw [if_pos c28] at hs110
                              refine lv_lload hx hb dX4_weather_176 (lv_at hl 1 rfl) ?_
                              refine lv_ldc2 hx hb hown (hts (.constantLong RX4 192 (5)) (List.mem_of_getElem? (i := 4) rfl)) dX4_weather_178 ?_
                              refine lv_ldiv hx hb dX4_weather_181 (by decide) ?_
                              refine lv_lstore (lv' := [(7, .long ((x110_l7 / 2) / 5)), (9, .long (x110_l9 / 2)), (11, .int x110_l11), (6, .int 1), (0, .ref ax), (1, .int p0), (2, .int p1), (3, .int p2), (4, .int p3), (5, .int p4)]) hx hb dX4_weather_182 hl (by decide) rfl (fun ls hl => ?_)
                              refine lv_lload hx hb dX4_weather_184 (lv_at hl 1 rfl) ?_
                              refine lv_ldc2 hx hb hown (hts (.constantLong RX4 192 (5)) (List.mem_of_getElem? (i := 4) rfl)) dX4_weather_186 ?_
                              refine lv_ldiv hx hb dX4_weather_189 (by decide) ?_
                              refine lv_lstore (lv' := [(9, .long ((x110_l9 / 2) / 5)), (7, .long ((x110_l7 / 2) / 5)), (11, .int x110_l11), (6, .int 1), (0, .ref ax), (1, .int p0), (2, .int p1), (3, .int p2), (4, .int p3), (5, .int p4)]) hx hb dX4_weather_190 hl (by decide) rfl (fun ls hl => ?_)
                              refine lv_iinc (v := (x110_l11 + 1)) (lv' := [(11, .int (x110_l11 + 1)), (9, .long ((x110_l9 / 2) / 5)), (7, .long ((x110_l7 / 2) / 5)), (6, .int 1), (0, .ref ax), (1, .int p0), (2, .int p1), (3, .int p2), (4, .int p3), (5, .int p4)]) hx hb dX4_weather_192 hl (k := 2) rfl (by rfl) (by decide) rfl (fun ls hl => ?_)
                              refine lv_goto (tgt := 110) hx hb dX4_weather_195 (by decide) ?_
                              obtain rfl := Option.some.inj hs110
                              exact ih110 _ _ _ _ _ _ hw110 hP hD hS (lv_sub hl [0, 1, 2, 3, 4, 5, 6, 7, 8, 9] rfl)
                exact lp110 5000 _ _ _ _ _ _ hr18 hP hD hS (lv_sub hl [0, 1, 2, 3, 4, 5, 6, 7, 8, 9] rfl)
              · rw [if_pos c17] at hf
                refine lv_lload hx hb dX4_weather_90 (lv_at hl 1 rfl) ?_
                refine lv_iload_n hx hb dX4_weather_92 rfl (lv_at hl 4 rfl) ?_
                refine lv_i2l (v := p0.toInt64) hx hb dX4_weather_93 rfl ?_
                refine lv_lload hx hb dX4_weather_94 (lv_at hl 0 rfl) ?_
                refine lv_lmul hx hb dX4_weather_96 ?_
                refine W.lcmp hx hb dX4_weather_97 ?_
                refine lv_if_ne (tgt := 105) hx hb dX4_weather_98 (by decide) (fun c29 => ?_) (fun c29 => ?_)
                · rw [if_neg c29] at hf
                  refine lv_lconst (v := 0) hx hb dX4_weather_105 (by decide) ?_
                  obtain rfl := Option.some.inj hf
                  exact hret rfl rfl hP hD hS dX4_weather_106
                · rw [if_pos c29] at hf
                  refine lv_lconst (v := 1) hx hb dX4_weather_101 (by decide) ?_
                  refine lv_goto (tgt := 106) hx hb dX4_weather_102 (by decide) ?_
                  obtain rfl := Option.some.inj hf
                  exact hret rfl rfl hP hD hS dX4_weather_106
            · rw [if_pos c14] at hf
              refine lv_ldc2 hx hb hown (hts (.constantLong RX4 182 (-1000000000000000002)) (List.mem_of_getElem? (i := 1) rfl)) dX4_weather_62 ?_
              obtain rfl := Option.some.inj hf
              exact hret rfl rfl hP hD hS dX4_weather_65
def s_X4_synonyms_74 (p1 : Int32) (p2 : Int32) (p3 : Int32) (x : Int32 × Int32) : Option ((Int32 × Int32) ⊕ (Int32 × Int32)) := if p3 ≤ x.2 then (some (.inr (x.1, x.2))) else (if (x.1 - 1) ≤ p1 then (some (.inl (p2, (x.2 + 1)))) else (some (.inl ((x.1 - 1), (x.2 + 1)))))
def f_X4_synonyms (p0 : Int32) (p1 : Int32) (p2 : Int32) (p3 : Int32) : Option (Int32) := bd (f_X4_isWithin p0 (0) (40)) (fun o1 => if o1 = 0 then (some (-2)) else (bd (f_X4_isWithin p1 (0) (20)) (fun o4 => if o4 = 0 then (some (-2)) else (bd (f_X4_isWithin p2 (p1 + 1) (40)) (fun o7 => if o7 = 0 then (some (-2)) else (bd (f_X4_isWithin p3 (-1) (99)) (fun o11 => if o11 = 0 then (some (-2)) else (if p3 = (-1) then (some (p2 - p1)) else (ob (wh (s_X4_synonyms_74 p1 p2 p3) 5000 (p0, 0)) (fun r14 => some r14.1))))))))))
theorem yd_X4_synonyms : yX4_synonyms.cls ≠ "java/lang/invoke/MethodHandle" ∧ yX4_synonyms.cls ≠ "java/lang/invoke/VarHandle" ∧ (parseMethodDescriptor yX4_synonyms.desc).map (fun d => d.parameters.length) = some 4 := by decide +kernel
abbrev rmX4_synonyms : Room := { frames := 1, cells := 0, slots := 0, locals := 22 }
set_option maxHeartbeats 4000000 in
set_option maxRecDepth 100000 in
theorem k_X4_synonyms (l : Launch) (D : va_G) (K : Nat → ClassId) (ax : Nat) (zshop : Nat) (zyearShop : Nat) (zimages : Nat) (zsigns : Nat) (zdays : Nat) (zmeans : Nat) (vsgc : Int32) (p0 : Int32) (p1 : Int32) (p2 : Int32) (p3 : Int32) (out : Int32) (hf : f_X4_synonyms p0 p1 p2 p3 = some out) : kI l D K .int yX4_synonyms wsX4_synonyms rmX4_synonyms [.ref ax, .int p0, .int p1, .int p2, .int p3] (xoW ax zshop zyearShop zimages zsigns zdays zmeans vsgc) out (xoW ax zshop zyearShop zimages zsigns zdays zmeans vsgc) := by
  refine kI.of (cc := cX4_synonyms) (maxL := 8) (by decide) rfl (Nat.le_of_ble_eq_true rfl) ?_
  intro p e s m args below meth c A H0 Q ls hx hb hml hown hts hK hN hA hP hD hS hl hret
  have hown : s.vm.findClass RX4 = some m.cls := hown
  have hl : lv_has ls 8 [(0, .ref ax), (1, .int p0), (2, .int p1), (3, .int p2), (4, .int p3)] := hl
  generalize hH : H0 = H at hP ⊢
  have hS : va_S A H0 H [] := by rw [← hH]; exact hS
  clear hH
  unfold f_X4_synonyms at hf
  refine lv_iload_n hx hb dX4_synonyms_0 rfl (lv_at hl 1 rfl) ?_
  refine lv_iconst (v := 0) hx hb dX4_synonyms_1 (by decide) ?_
  refine lv_bipush (v := 40) hx hb dX4_synonyms_2 (by decide) ?_
  obtain ⟨o1, ho1, hf⟩ := bd_el hf
  refine kc0_i (D := D) (va_runS (As := [.int p0, .int 0, .int 40]) (rest := []) ⟨hx, hb, hml, hown, hts⟩ ((k_X4_isWithin l D K p0 (0) (40) o1 ho1) H.size) (va_cwS 3 hts gX4_synonyms_X4_isWithin rfl rfl rfl yd_X4_isWithin ⟨Nat.le_of_ble_eq_true rfl, Nat.le_of_ble_eq_true rfl⟩) (kPreS va_P_nil (va_D_nil (A := fun _ => True)) hK hN) rfl rfl hl.1 rfl (lv_room (Nat.le_of_ble_eq_true rfl)) dX4_synonyms_4 ⟨Nat.le_of_ble_eq_true rfl, Nat.le_of_ble_eq_true rfl⟩) hP hS hA (fun hzo1 H locs hP hS => ?_)
  refine lv_if_eq (tgt := 36) hx hb dX4_synonyms_7 (by decide) (fun c2 => ?_) (fun c2 => ?_)
  · rw [if_pos c2] at hf
    refine lv_iconst (v := 0) hx hb dX4_synonyms_36 (by decide) ?_
    refine lv_istore (lv' := [(5, .int 0), (0, .ref ax), (1, .int p0), (2, .int p1), (3, .int p2), (4, .int p3)]) hx hb dX4_synonyms_37 hl (by decide) rfl (fun ls hl => ?_)
    refine lv_iload hx hb dX4_synonyms_39 (lv_at hl 0 rfl) ?_
    refine lv_if_eq (tgt := 55) hx hb dX4_synonyms_41 (by decide) (fun c3 => ?_) (fun c3 => ?_)
    · skip
      refine lv_bipush (v := (-2)) hx hb dX4_synonyms_55 (by decide) ?_
      obtain rfl := Option.some.inj hf
      exact hret rfl rfl rfl hP hD hS dX4_synonyms_57
    · exact absurd (by decide : (0 : Int32) = 0) c3
  · rw [if_neg c2] at hf
    refine lv_iload_n hx hb dX4_synonyms_10 rfl (lv_at hl 2 rfl) ?_
    refine lv_iconst (v := 0) hx hb dX4_synonyms_11 (by decide) ?_
    refine lv_bipush (v := 20) hx hb dX4_synonyms_12 (by decide) ?_
    obtain ⟨o4, ho4, hf⟩ := bd_el hf
    refine kc0_i (D := D) (va_runS (As := [.int p1, .int 0, .int 20]) (rest := []) ⟨hx, hb, hml, hown, hts⟩ ((k_X4_isWithin l D K p1 (0) (20) o4 ho4) H.size) (va_cwS 3 hts gX4_synonyms_X4_isWithin rfl rfl rfl yd_X4_isWithin ⟨Nat.le_of_ble_eq_true rfl, Nat.le_of_ble_eq_true rfl⟩) (kPreS va_P_nil (va_D_nil (A := fun _ => True)) hK hN) rfl rfl hl.1 rfl (lv_room (Nat.le_of_ble_eq_true rfl)) dX4_synonyms_14 ⟨Nat.le_of_ble_eq_true rfl, Nat.le_of_ble_eq_true rfl⟩) hP hS hA (fun hzo4 H locs hP hS => ?_)
    refine lv_if_eq (tgt := 36) hx hb dX4_synonyms_17 (by decide) (fun c5 => ?_) (fun c5 => ?_)
    · rw [if_pos c5] at hf
      refine lv_iconst (v := 0) hx hb dX4_synonyms_36 (by decide) ?_
      refine lv_istore (lv' := [(5, .int 0), (0, .ref ax), (1, .int p0), (2, .int p1), (3, .int p2), (4, .int p3)]) hx hb dX4_synonyms_37 hl (by decide) rfl (fun ls hl => ?_)
      refine lv_iload hx hb dX4_synonyms_39 (lv_at hl 0 rfl) ?_
      refine lv_if_eq (tgt := 55) hx hb dX4_synonyms_41 (by decide) (fun c6 => ?_) (fun c6 => ?_)
      · skip
        refine lv_bipush (v := (-2)) hx hb dX4_synonyms_55 (by decide) ?_
        obtain rfl := Option.some.inj hf
        exact hret rfl rfl rfl hP hD hS dX4_synonyms_57
      · exact absurd (by decide : (0 : Int32) = 0) c6
    · rw [if_neg c5] at hf
      refine lv_iload_n hx hb dX4_synonyms_20 rfl (lv_at hl 3 rfl) ?_
      refine lv_iload_n hx hb dX4_synonyms_21 rfl (lv_at hl 2 rfl) ?_
      refine lv_iconst (v := 1) hx hb dX4_synonyms_22 (by decide) ?_
      refine lv_iadd hx hb dX4_synonyms_23 ?_
      refine lv_bipush (v := 40) hx hb dX4_synonyms_24 (by decide) ?_
      obtain ⟨o7, ho7, hf⟩ := bd_el hf
      refine kc0_i (D := D) (va_runS (As := [.int p2, .int (p1 + 1), .int 40]) (rest := []) ⟨hx, hb, hml, hown, hts⟩ ((k_X4_isWithin l D K p2 (p1 + 1) (40) o7 ho7) H.size) (va_cwS 3 hts gX4_synonyms_X4_isWithin rfl rfl rfl yd_X4_isWithin ⟨Nat.le_of_ble_eq_true rfl, Nat.le_of_ble_eq_true rfl⟩) (kPreS va_P_nil (va_D_nil (A := fun _ => True)) hK hN) rfl rfl hl.1 rfl (lv_room (Nat.le_of_ble_eq_true rfl)) dX4_synonyms_26 ⟨Nat.le_of_ble_eq_true rfl, Nat.le_of_ble_eq_true rfl⟩) hP hS hA (fun hzo7 H locs hP hS => ?_)
      refine lv_if_eq (tgt := 36) hx hb dX4_synonyms_29 (by decide) (fun c8 => ?_) (fun c8 => ?_)
      · rw [if_pos c8] at hf
        refine lv_iconst (v := 0) hx hb dX4_synonyms_36 (by decide) ?_
        refine lv_istore (lv' := [(5, .int 0), (0, .ref ax), (1, .int p0), (2, .int p1), (3, .int p2), (4, .int p3)]) hx hb dX4_synonyms_37 hl (by decide) rfl (fun ls hl => ?_)
        refine lv_iload hx hb dX4_synonyms_39 (lv_at hl 0 rfl) ?_
        refine lv_if_eq (tgt := 55) hx hb dX4_synonyms_41 (by decide) (fun c9 => ?_) (fun c9 => ?_)
        · skip
          refine lv_bipush (v := (-2)) hx hb dX4_synonyms_55 (by decide) ?_
          obtain rfl := Option.some.inj hf
          exact hret rfl rfl rfl hP hD hS dX4_synonyms_57
        · exact absurd (by decide : (0 : Int32) = 0) c9
      · rw [if_neg c8] at hf
        refine lv_iconst (v := 1) hx hb dX4_synonyms_32 (by decide) ?_
        refine lv_goto (tgt := 37) hx hb dX4_synonyms_33 (by decide) ?_
        refine lv_istore (lv' := [(5, .int 1), (0, .ref ax), (1, .int p0), (2, .int p1), (3, .int p2), (4, .int p3)]) hx hb dX4_synonyms_37 hl (by decide) rfl (fun ls hl => ?_)
        refine lv_iload hx hb dX4_synonyms_39 (lv_at hl 0 rfl) ?_
        refine lv_if_eq (tgt := 55) hx hb dX4_synonyms_41 (by decide) (fun c10 => ?_) (fun c10 => ?_)
        · exact absurd c10 (by decide : ¬ (1 : Int32) = 0)
        · skip
          refine lv_iload hx hb dX4_synonyms_44 (lv_at hl 5 rfl) ?_
          refine lv_iconst (v := (-1)) hx hb dX4_synonyms_46 (by decide) ?_
          refine lv_bipush (v := 99) hx hb dX4_synonyms_47 (by decide) ?_
          obtain ⟨o11, ho11, hf⟩ := bd_el hf
          refine kc0_i (D := D) (va_runS (As := [.int p3, .int (-1), .int 99]) (rest := []) ⟨hx, hb, hml, hown, hts⟩ ((k_X4_isWithin l D K p3 (-1) (99) o11 ho11) H.size) (va_cwS 3 hts gX4_synonyms_X4_isWithin rfl rfl rfl yd_X4_isWithin ⟨Nat.le_of_ble_eq_true rfl, Nat.le_of_ble_eq_true rfl⟩) (kPreS va_P_nil (va_D_nil (A := fun _ => True)) hK hN) rfl rfl hl.1 rfl (lv_room (Nat.le_of_ble_eq_true rfl)) dX4_synonyms_49 ⟨Nat.le_of_ble_eq_true rfl, Nat.le_of_ble_eq_true rfl⟩) hP hS hA (fun hzo11 H locs hP hS => ?_)
          refine lv_if_ne (tgt := 58) hx hb dX4_synonyms_52 (by decide) (fun c12 => ?_) (fun c12 => ?_)
          · rw [if_neg c12] at hf
            refine lv_iload hx hb dX4_synonyms_58 (lv_at hl 5 rfl) ?_
            refine lv_iconst (v := (-1)) hx hb dX4_synonyms_60 (by decide) ?_
            refine lv_icmp_ne (tgt := 68) hx hb dX4_synonyms_61 (by decide) (fun c13 => ?_) (fun c13 => ?_)
            · rw [if_neg c13] at hf
              refine lv_iload_n hx hb dX4_synonyms_68 rfl (lv_at hl 2 rfl) ?_
              refine lv_istore (lv' := [(6, .int p0), (5, .int 1), (0, .ref ax), (1, .int p0), (2, .int p1), (3, .int p2), (4, .int p3)]) hx hb dX4_synonyms_69 hl (by decide) rfl (fun ls hl => ?_)
              refine lv_iconst (v := 0) hx hb dX4_synonyms_71 (by decide) ?_
              refine lv_istore (lv' := [(7, .int 0), (6, .int p0), (5, .int 1), (0, .ref ax), (1, .int p0), (2, .int p1), (3, .int p2), (4, .int p3)]) hx hb dX4_synonyms_72 hl (by decide) rfl (fun ls hl => ?_)
              obtain ⟨r14, hr14, hf⟩ := ob_el hf
              have post74 : ∀ (e74_l6 : Int32) (e74_l7 : Int32) (H : Heap) (locs : List Loc) (ls : Array Slot), (some e74_l6) = some out → va_P D vwCl (xoW ax zshop zyearShop zimages zsigns zdays zmeans vsgc) H → va_D A (xoW ax zshop zyearShop zimages zsigns zdays zmeans vsgc) → va_S A H0 H locs → lv_has ls 8 [(7, .int e74_l7), (6, .int e74_l6), (5, .int 1), (0, .ref ax), (1, .int p0), (2, .int p1), (3, .int p2), (4, .int p3)] → W p l e rmX4_synonyms s m args below meth c H locs 0 0 Q (F0 m 105 ls []) := by
                intro e74_l6 e74_l7 H locs ls hf hP hD hS hl
                refine lv_iload hx hb dX4_synonyms_105 (lv_at hl 1 rfl) ?_
                obtain rfl := Option.some.inj hf
                exact hret rfl rfl rfl hP hD hS dX4_synonyms_107
              have lp74 : ∀ (fu : Nat) (x74_l6 : Int32) (x74_l7 : Int32) (H : Heap) (locs : List Loc) (ls : Array Slot), wh (s_X4_synonyms_74 p1 p2 p3) fu (x74_l6, x74_l7) = some r14 → va_P D vwCl (xoW ax zshop zyearShop zimages zsigns zdays zmeans vsgc) H → va_D A (xoW ax zshop zyearShop zimages zsigns zdays zmeans vsgc) → va_S A H0 H locs → lv_has ls 8 [(7, .int x74_l7), (6, .int x74_l6), (5, .int 1), (0, .ref ax), (1, .int p0), (2, .int p1), (3, .int p2), (4, .int p3)] → W p l e rmX4_synonyms s m args below meth c H locs 0 0 Q (F0 m 74 ls []) := by
                intro fu
                induction fu with
                | zero => intro x74_l6 x74_l7 H locs ls hw74; cases hw74
                | succ fu ih74 =>
                  intro x74_l6 x74_l7 H locs ls hw74 hP hD hS hl
                  obtain ⟨o74_, hs74, hw74⟩ := wh_el hw74
                  unfold s_X4_synonyms_74 at hs74
                  dsimp only at hs74
                  refine lv_iload hx hb dX4_synonyms_74 (lv_at hl 0 rfl) ?_
                  refine lv_iload hx hb dX4_synonyms_76 (lv_at hl 7 rfl) ?_
                  refine lv_icmp_ge (tgt := 105) hx hb dX4_synonyms_78 (by decide) (fun c15 => ?_) (fun c15 => ?_)
                  · rw [if_pos c15] at hs74
                    obtain rfl := Option.some.inj hs74
                    have e9 := Option.some.inj hw74
                    rw [← e9] at hf
                    exact post74 _ _ _ _ _ hf hP hD hS (lv_sub hl [0, 1, 2, 3, 4, 5, 6, 7] rfl)
                  · rw [if_neg c15] at hs74
                    refine lv_iload hx hb dX4_synonyms_81 (lv_at hl 1 rfl) ?_
                    refine lv_iconst (v := 1) hx hb dX4_synonyms_83 (by decide) ?_
                    refine lv_isub hx hb dX4_synonyms_84 ?_
                    refine lv_iload_n hx hb dX4_synonyms_85 rfl (lv_at hl 5 rfl) ?_
                    refine lv_icmp_le (tgt := 96) hx hb dX4_synonyms_86 (by decide) (fun c16 => ?_) (fun c16 => ?_)
                    · rw [if_pos c16] at hs74
                      refine lv_iload_n hx hb dX4_synonyms_96 rfl (lv_at hl 6 rfl) ?_
                      refine lv_istore (lv' := [(6, .int p2), (7, .int x74_l7), (5, .int 1), (0, .ref ax), (1, .int p0), (2, .int p1), (3, .int p2), (4, .int p3)]) hx hb dX4_synonyms_97 hl (by decide) rfl (fun ls hl => ?_)
                      refine lv_iinc (v := (x74_l7 + 1)) (lv' := [(7, .int (x74_l7 + 1)), (6, .int p2), (5, .int 1), (0, .ref ax), (1, .int p0), (2, .int p1), (3, .int p2), (4, .int p3)]) hx hb dX4_synonyms_99 hl (k := 1) rfl (by rfl) (by decide) rfl (fun ls hl => ?_)
                      refine lv_goto (tgt := 74) hx hb dX4_synonyms_102 (by decide) ?_
                      obtain rfl := Option.some.inj hs74
                      exact ih74 _ _ _ _ _ hw74 hP hD hS (lv_sub hl [0, 1, 2, 3, 4, 5, 6, 7] rfl)
                    · rw [if_neg c16] at hs74
                      refine lv_iload hx hb dX4_synonyms_89 (lv_at hl 1 rfl) ?_
                      refine lv_iconst (v := 1) hx hb dX4_synonyms_91 (by decide) ?_
                      refine lv_isub hx hb dX4_synonyms_92 ?_
                      refine lv_goto (tgt := 97) hx hb dX4_synonyms_93 (by decide) ?_
                      refine lv_istore (lv' := [(6, .int (x74_l6 - 1)), (7, .int x74_l7), (5, .int 1), (0, .ref ax), (1, .int p0), (2, .int p1), (3, .int p2), (4, .int p3)]) hx hb dX4_synonyms_97 hl (by decide) rfl (fun ls hl => ?_)
                      refine lv_iinc (v := (x74_l7 + 1)) (lv' := [(7, .int (x74_l7 + 1)), (6, .int (x74_l6 - 1)), (5, .int 1), (0, .ref ax), (1, .int p0), (2, .int p1), (3, .int p2), (4, .int p3)]) hx hb dX4_synonyms_99 hl (k := 1) rfl (by rfl) (by decide) rfl (fun ls hl => ?_)
                      refine lv_goto (tgt := 74) hx hb dX4_synonyms_102 (by decide) ?_
                      obtain rfl := Option.some.inj hs74
                      exact ih74 _ _ _ _ _ hw74 hP hD hS (lv_sub hl [0, 1, 2, 3, 4, 5, 6, 7] rfl)
              exact lp74 5000 _ _ _ _ _ hr14 hP hD hS (lv_sub hl [0, 1, 2, 3, 4, 5, 6, 7] rfl)
            · rw [if_pos c13] at hf
              refine lv_iload_n hx hb dX4_synonyms_64 rfl (lv_at hl 4 rfl) ?_
              refine lv_iload_n hx hb dX4_synonyms_65 rfl (lv_at hl 3 rfl) ?_
              refine lv_isub hx hb dX4_synonyms_66 ?_
              obtain rfl := Option.some.inj hf
              exact hret rfl rfl rfl hP hD hS dX4_synonyms_67
          · rw [if_pos c12] at hf
            refine lv_bipush (v := (-2)) hx hb dX4_synonyms_55 (by decide) ?_
            obtain rfl := Option.some.inj hf
            exact hret rfl rfl rfl hP hD hS dX4_synonyms_57
def f_X4_year (vw : Nat → Int32) (vk : Nat → Int32) (vr : Nat → Int32) (vp : Nat → Int32) (vb : Nat → Int32) (vi : Nat → Int32) (vwc : Int32) (vl : Nat → Int32) (vg : Nat → Int32) (vo : Nat → Int32) (vsc : Int32) (vwy : Nat → Int32) (vky : Nat → Int32) (vry : Nat → Int32) (vpy : Nat → Int32) (vby : Nat → Int32) (viy : Nat → Int32) (vwcy : Int32) (vly : Nat → Int32) (vgy : Nat → Int32) (voy : Nat → Int32) (vscy : Int32) (p0 : Int32) (p1 : Int32) (p2 : Int32) : Option (Int32 × (Nat → Int32) × (Nat → Int32) × (Nat → Int32) × (Nat → Int32) × (Nat → Int32) × (Nat → Int32) × Int32 × (Nat → Int32) × (Nat → Int32) × (Nat → Int32) × Int32) := bd (f_X4_isWithin p0 (0) (9999)) (fun o1 => if o1 = 0 then (some ((-2), vwy, vky, vry, vpy, vby, viy, vwcy, vly, vgy, voy, vscy)) else (bd (f_X4_isWithin p1 (1) (99)) (fun o3 => if o3 = 0 then (some ((-2), vwy, vky, vry, vpy, vby, viy, vwcy, vly, vgy, voy, vscy)) else (bd (f_X4_isWithin p2 (0) (2)) (fun o5 => if o5 = 0 then (some ((-2), vwy, vky, vry, vpy, vby, viy, vwcy, vly, vgy, voy, vscy)) else (ob (f_X3_copyFrom vwy vky vry vpy vby viy vly vgy voy vw vk vr vp vb vi vwc vl vg vo vsc) (fun o7 => ob (f_X3_liveYear o7.1 o7.2.2.2.1 o7.2.2.2.2.1 p0 p1) (fun o8 => if p2 = 2 then (ob (f_X3_countBelongings o8.2.2) (fun o13 => some (o13, o8.1, o7.2.1, o7.2.2.1, o8.2.1, o8.2.2, o7.2.2.2.2.2.1, o7.2.2.2.2.2.2.1, o7.2.2.2.2.2.2.2.1, o7.2.2.2.2.2.2.2.2.1, o7.2.2.2.2.2.2.2.2.2.1, o7.2.2.2.2.2.2.2.2.2.2))) else (if p2 = 0 then (ob (f_X4_sumOf 4 o8.2.1) (fun o12 => some (o12, o8.1, o7.2.1, o7.2.2.1, o8.2.1, o8.2.2, o7.2.2.2.2.2.1, o7.2.2.2.2.2.2.1, o7.2.2.2.2.2.2.2.1, o7.2.2.2.2.2.2.2.2.1, o7.2.2.2.2.2.2.2.2.2.1, o7.2.2.2.2.2.2.2.2.2.2))) else (ob (f_X4_sumOf 12 o8.1) (fun o11 => some (o11, o8.1, o7.2.1, o7.2.2.1, o8.2.1, o8.2.2, o7.2.2.2.2.2.1, o7.2.2.2.2.2.2.1, o7.2.2.2.2.2.2.2.1, o7.2.2.2.2.2.2.2.2.1, o7.2.2.2.2.2.2.2.2.2.1, o7.2.2.2.2.2.2.2.2.2.2))))))))))))
theorem inX4_year_X3 : ∀ w ∈ wsX30, w ∈ wsX4_year := fun w h => List.mem_cons_of_mem _ (List.mem_append_right _ h)
theorem inX4_year_X4 : ∀ w ∈ wsX40, w ∈ wsX4_year := fun w h => List.mem_cons_of_mem _ (List.mem_append_left _ (List.mem_append_right _ h))
theorem yd_X4_year : yX4_year.cls ≠ "java/lang/invoke/MethodHandle" ∧ yX4_year.cls ≠ "java/lang/invoke/VarHandle" ∧ (parseMethodDescriptor yX4_year.desc).map (fun d => d.parameters.length) = some 3 := by decide +kernel
abbrev rmX4_year : Room := { frames := 4, cells := 0, slots := 0, locals := 95 }
set_option maxHeartbeats 4000000 in
set_option maxRecDepth 100000 in
theorem k_X4_year (l : Launch) (D : va_G) (K : Nat → ClassId) (ax : Nat) (q : Nat → Nat) (qy : Nat → Nat) (zimages : Nat) (zsigns : Nat) (zdays : Nat) (zmeans : Nat) (vsgc : Int32) (vw : Nat → Int32) (vk : Nat → Int32) (vr : Nat → Int32) (vp : Nat → Int32) (vb : Nat → Int32) (vi : Nat → Int32) (vwc : Int32) (vl : Nat → Int32) (vg : Nat → Int32) (vo : Nat → Int32) (vsc : Int32) (vwy : Nat → Int32) (vky : Nat → Int32) (vry : Nat → Int32) (vpy : Nat → Int32) (vby : Nat → Int32) (viy : Nat → Int32) (vwcy : Int32) (vly : Nat → Int32) (vgy : Nat → Int32) (voy : Nat → Int32) (vscy : Int32) (p0 : Int32) (p1 : Int32) (p2 : Int32) (out : Int32 × (Nat → Int32) × (Nat → Int32) × (Nat → Int32) × (Nat → Int32) × (Nat → Int32) × (Nat → Int32) × Int32 × (Nat → Int32) × (Nat → Int32) × (Nat → Int32) × Int32) (hf : f_X4_year vw vk vr vp vb vi vwc vl vg vo vsc vwy vky vry vpy vby viy vwcy vly vgy voy vscy p0 p1 p2 = some out) : kI l D K .int yX4_year wsX4_year rmX4_year [.ref ax, .int p0, .int p1, .int p2] ((xoW ax (q 0) (qy 0) zimages zsigns zdays zmeans vsgc) ++ (shW K q vw vk vr vp vb vi vwc vl vg vo vsc) ++ (shW K qy vwy vky vry vpy vby viy vwcy vly vgy voy vscy)) out.1 ((xoW ax (q 0) (qy 0) zimages zsigns zdays zmeans vsgc) ++ (shW K q vw vk vr vp vb vi vwc vl vg vo vsc) ++ (shW K qy out.2.1 out.2.2.1 out.2.2.2.1 out.2.2.2.2.1 out.2.2.2.2.2.1 out.2.2.2.2.2.2.1 out.2.2.2.2.2.2.2.1 out.2.2.2.2.2.2.2.2.1 out.2.2.2.2.2.2.2.2.2.1 out.2.2.2.2.2.2.2.2.2.2.1 out.2.2.2.2.2.2.2.2.2.2.2)) := by
  refine kI.of (cc := cX4_year) (maxL := 4) (by decide) rfl (Nat.le_of_ble_eq_true rfl) ?_
  intro p e s m args below meth c A H0 Q ls hx hb hml hown hts hK hN hA hP hD hS hl hret
  have hown : s.vm.findClass RX4 = some m.cls := hown
  have hl : lv_has ls 4 [(0, .ref ax), (1, .int p0), (2, .int p1), (3, .int p2)] := hl
  generalize hH : H0 = H at hP ⊢
  have hS : va_S A H0 H [] := by rw [← hH]; exact hS
  clear hH
  unfold f_X4_year at hf
  refine lv_iload_n hx hb dX4_year_0 rfl (lv_at hl 1 rfl) ?_
  refine lv_iconst (v := 0) hx hb dX4_year_1 (by decide) ?_
  refine lv_sipush (v := 9999) hx hb dX4_year_2 (by decide) ?_
  obtain ⟨o1, ho1, hf⟩ := bd_el hf
  refine kc0_i (D := D) (va_runS (As := [.int p0, .int 0, .int 9999]) (rest := []) ⟨hx, hb, hml, hown, hts⟩ ((k_X4_isWithin l D K p0 (0) (9999) o1 ho1) H.size) (va_cwS 3 hts gX4_year_X4_isWithin rfl rfl rfl yd_X4_isWithin ⟨Nat.le_of_ble_eq_true rfl, Nat.le_of_ble_eq_true rfl⟩) (kPreS va_P_nil (va_D_nil (A := fun _ => True)) hK hN) rfl rfl hl.1 rfl (lv_room (Nat.le_of_ble_eq_true rfl)) dX4_year_5 ⟨Nat.le_of_ble_eq_true rfl, Nat.le_of_ble_eq_true rfl⟩) hP hS hA (fun hzo1 H locs hP hS => ?_)
  refine lv_if_eq (tgt := 30) hx hb dX4_year_8 (by decide) (fun c2 => ?_) (fun c2 => ?_)
  · rw [if_pos c2] at hf
    refine lv_bipush (v := (-2)) hx hb dX4_year_30 (by decide) ?_
    obtain rfl := Option.some.inj hf
    exact hret rfl rfl rfl hP hD hS dX4_year_32
  · rw [if_neg c2] at hf
    refine lv_iload_n hx hb dX4_year_11 rfl (lv_at hl 2 rfl) ?_
    refine lv_iconst (v := 1) hx hb dX4_year_12 (by decide) ?_
    refine lv_bipush (v := 99) hx hb dX4_year_13 (by decide) ?_
    obtain ⟨o3, ho3, hf⟩ := bd_el hf
    refine kc0_i (D := D) (va_runS (As := [.int p1, .int 1, .int 99]) (rest := []) ⟨hx, hb, hml, hown, hts⟩ ((k_X4_isWithin l D K p1 (1) (99) o3 ho3) H.size) (va_cwS 3 hts gX4_year_X4_isWithin rfl rfl rfl yd_X4_isWithin ⟨Nat.le_of_ble_eq_true rfl, Nat.le_of_ble_eq_true rfl⟩) (kPreS va_P_nil (va_D_nil (A := fun _ => True)) hK hN) rfl rfl hl.1 rfl (lv_room (Nat.le_of_ble_eq_true rfl)) dX4_year_15 ⟨Nat.le_of_ble_eq_true rfl, Nat.le_of_ble_eq_true rfl⟩) hP hS hA (fun hzo3 H locs hP hS => ?_)
    refine lv_if_eq (tgt := 30) hx hb dX4_year_18 (by decide) (fun c4 => ?_) (fun c4 => ?_)
    · rw [if_pos c4] at hf
      refine lv_bipush (v := (-2)) hx hb dX4_year_30 (by decide) ?_
      obtain rfl := Option.some.inj hf
      exact hret rfl rfl rfl hP hD hS dX4_year_32
    · rw [if_neg c4] at hf
      refine lv_iload_n hx hb dX4_year_21 rfl (lv_at hl 3 rfl) ?_
      refine lv_iconst (v := 0) hx hb dX4_year_22 (by decide) ?_
      refine lv_iconst (v := 2) hx hb dX4_year_23 (by decide) ?_
      obtain ⟨o5, ho5, hf⟩ := bd_el hf
      refine kc0_i (D := D) (va_runS (As := [.int p2, .int 0, .int 2]) (rest := []) ⟨hx, hb, hml, hown, hts⟩ ((k_X4_isWithin l D K p2 (0) (2) o5 ho5) H.size) (va_cwS 3 hts gX4_year_X4_isWithin rfl rfl rfl yd_X4_isWithin ⟨Nat.le_of_ble_eq_true rfl, Nat.le_of_ble_eq_true rfl⟩) (kPreS va_P_nil (va_D_nil (A := fun _ => True)) hK hN) rfl rfl hl.1 rfl (lv_room (Nat.le_of_ble_eq_true rfl)) dX4_year_24 ⟨Nat.le_of_ble_eq_true rfl, Nat.le_of_ble_eq_true rfl⟩) hP hS hA (fun hzo5 H locs hP hS => ?_)
      refine lv_if_ne (tgt := 33) hx hb dX4_year_27 (by decide) (fun c6 => ?_) (fun c6 => ?_)
      · rw [if_neg c6] at hf
        refine lv_aload_n hx hb dX4_year_33 rfl (lv_at hl 0 rfl) ?_
        refine va_get (D := D) (ci := 4) (v := .ref (qy 0)) (C := RX4) (T := TX4) (N := 7) hx hb hts inX4_year_X4 hown hK hP 0 rfl rfl 1 (by decide) (hts (.fieldLink RX4 16 "WordScales" "yearShop" "LWordScales$Shop;") (List.mem_of_getElem? (i := 1) rfl)) (fun _ h9 => h9) rfl dX4_year_34 ?_
        refine lv_aload_n hx hb dX4_year_37 rfl (lv_at hl 0 rfl) ?_
        refine va_get (D := D) (ci := 4) (v := .ref (q 0)) (C := RX4) (T := TX4) (N := 7) hx hb hts inX4_year_X4 hown hK hP 0 rfl rfl 0 (by decide) (hts (.fieldLink RX4 10 "WordScales" "shop" "LWordScales$Shop;") (List.mem_of_getElem? (i := 2) rfl)) (fun _ h9 => h9) rfl dX4_year_38 ?_
        obtain ⟨o7, ho7, hf⟩ := ob_el hf
        have hPc : va_P D vwCl ((shW K qy vwy vky vry vpy vby viy vwcy vly vgy voy vscy) ++ (shW K q vw vk vr vp vb vi vwc vl vg vo vsc)) H := hP.sub [11, 12, 13, 14, 15, 16, 17, 18, 19, 20, 1, 2, 3, 4, 5, 6, 7, 8, 9, 10] rfl
        have hDc : va_D A ((shW K qy vwy vky vry vpy vby viy vwcy vly vgy voy vscy) ++ (shW K q vw vk vr vp vb vi vwc vl vg vo vsc)) := hD.sub [11, 12, 13, 14, 15, 16, 17, 18, 19, 20, 1, 2, 3, 4, 5, 6, 7, 8, 9, 10] (by decide) rfl
        refine kcg_v (D := D) (wc := ((shW K qy vwy vky vry vpy vby viy vwcy vly vgy voy vscy) ++ (shW K q vw vk vr vp vb vi vwc vl vg vo vsc))) (wc' := ((shW K qy o7.1 o7.2.1 o7.2.2.1 o7.2.2.2.1 o7.2.2.2.2.1 o7.2.2.2.2.2.1 o7.2.2.2.2.2.2.1 o7.2.2.2.2.2.2.2.1 o7.2.2.2.2.2.2.2.2.1 o7.2.2.2.2.2.2.2.2.2.1 o7.2.2.2.2.2.2.2.2.2.2) ++ (shW K q vw vk vr vp vb vi vwc vl vg vo vsc))) (wr := [0].filterMap (fun i => (((xoW ax (q 0) (qy 0) zimages zsigns zdays zmeans vsgc) ++ (shW K q vw vk vr vp vb vi vwc vl vg vo vsc) ++ (shW K qy vwy vky vry vpy vby viy vwcy vly vgy voy vscy)) : va_W)[i]?)) (ws2 := ((xoW ax (q 0) (qy 0) zimages zsigns zdays zmeans vsgc) ++ (shW K q vw vk vr vp vb vi vwc vl vg vo vsc) ++ (shW K qy o7.1 o7.2.1 o7.2.2.1 o7.2.2.2.1 o7.2.2.2.2.1 o7.2.2.2.2.2.1 o7.2.2.2.2.2.2.1 o7.2.2.2.2.2.2.2.1 o7.2.2.2.2.2.2.2.2.1 o7.2.2.2.2.2.2.2.2.2.1 o7.2.2.2.2.2.2.2.2.2.2))) (va_runVN (As := [.ref (q 0)]) (rest := []) ⟨hx, hb, hml, hown, hts⟩ ((k_X3_copyFrom l D K qy q vwy vky vry vpy vby viy vwcy vly vgy voy vscy vw vk vr vp vb vi vwc vl vg vo vsc o7 ho7) H.size) ⟨va_cnB 1 hts gX4_year_X3_copyFrom_n117 rfl rfl rfl (hN _ (List.mem_of_getElem? (i := 50) rfl)) (hts (.initialized RX3) (List.mem_of_getElem? (i := 8) rfl)) yd_X3_copyFrom ⟨Nat.le_of_ble_eq_true rfl, Nat.le_of_ble_eq_true rfl⟩, (hts (.instanceMethod yX3_copyFrom) (List.mem_of_getElem? (i := 7) rfl)), (hts (.selects RX3 yX3_copyFrom yX3_copyFrom) (List.mem_of_getElem? (i := 9) rfl))⟩ (kPreV (ci := 3) (q0 := 11) hP rfl rfl hPc hDc hK hN) rfl rfl hl.1 rfl (lv_room (Nat.le_of_ble_eq_true rfl)) dX4_year_41 ⟨Nat.le_of_ble_eq_true rfl, Nat.le_of_ble_eq_true rfl⟩) hP hD hS hA [11, 12, 13, 14, 15, 16, 17, 18, 19, 20, 1, 2, 3, 4, 5, 6, 7, 8, 9, 10] [0] [0, 11, 12, 13, 14, 15, 16, 17, 18, 19, 20, 1, 2, 3, 4, 5, 6, 7, 8, 9, 10] rfl rfl (by decide) (by decide) rfl (by decide) (fun H locs hP hD hS => ?_)
        refine lv_aload_n hx hb dX4_year_44 rfl (lv_at hl 0 rfl) ?_
        refine va_get (D := D) (ci := 4) (v := .ref (qy 0)) (C := RX4) (T := TX4) (N := 7) hx hb hts inX4_year_X4 hown hK hP 0 rfl rfl 1 (by decide) (hts (.fieldLink RX4 16 "WordScales" "yearShop" "LWordScales$Shop;") (List.mem_of_getElem? (i := 1) rfl)) (fun _ h9 => h9) rfl dX4_year_45 ?_
        refine lv_iload_n hx hb dX4_year_48 rfl (lv_at hl 1 rfl) ?_
        refine lv_iload_n hx hb dX4_year_49 rfl (lv_at hl 2 rfl) ?_
        obtain ⟨o8, ho8, hf⟩ := ob_el hf
        have hPc : va_P D vwCl (shW K qy o7.1 o7.2.1 o7.2.2.1 o7.2.2.2.1 o7.2.2.2.2.1 o7.2.2.2.2.2.1 o7.2.2.2.2.2.2.1 o7.2.2.2.2.2.2.2.1 o7.2.2.2.2.2.2.2.2.1 o7.2.2.2.2.2.2.2.2.2.1 o7.2.2.2.2.2.2.2.2.2.2) H := hP.sub [11, 12, 13, 14, 15, 16, 17, 18, 19, 20] rfl
        have hDc : va_D A (shW K qy o7.1 o7.2.1 o7.2.2.1 o7.2.2.2.1 o7.2.2.2.2.1 o7.2.2.2.2.2.1 o7.2.2.2.2.2.2.1 o7.2.2.2.2.2.2.2.1 o7.2.2.2.2.2.2.2.2.1 o7.2.2.2.2.2.2.2.2.2.1 o7.2.2.2.2.2.2.2.2.2.2) := hD.sub [11, 12, 13, 14, 15, 16, 17, 18, 19, 20] (by decide) rfl
        refine kcg_v (D := D) (wc := (shW K qy o7.1 o7.2.1 o7.2.2.1 o7.2.2.2.1 o7.2.2.2.2.1 o7.2.2.2.2.2.1 o7.2.2.2.2.2.2.1 o7.2.2.2.2.2.2.2.1 o7.2.2.2.2.2.2.2.2.1 o7.2.2.2.2.2.2.2.2.2.1 o7.2.2.2.2.2.2.2.2.2.2)) (wc' := (shW K qy o8.1 o7.2.1 o7.2.2.1 o8.2.1 o8.2.2 o7.2.2.2.2.2.1 o7.2.2.2.2.2.2.1 o7.2.2.2.2.2.2.2.1 o7.2.2.2.2.2.2.2.2.1 o7.2.2.2.2.2.2.2.2.2.1 o7.2.2.2.2.2.2.2.2.2.2)) (wr := [0, 1, 2, 3, 4, 5, 6, 7, 8, 9, 10].filterMap (fun i => (((xoW ax (q 0) (qy 0) zimages zsigns zdays zmeans vsgc) ++ (shW K q vw vk vr vp vb vi vwc vl vg vo vsc) ++ (shW K qy o7.1 o7.2.1 o7.2.2.1 o7.2.2.2.1 o7.2.2.2.2.1 o7.2.2.2.2.2.1 o7.2.2.2.2.2.2.1 o7.2.2.2.2.2.2.2.1 o7.2.2.2.2.2.2.2.2.1 o7.2.2.2.2.2.2.2.2.2.1 o7.2.2.2.2.2.2.2.2.2.2)) : va_W)[i]?)) (ws2 := ((xoW ax (q 0) (qy 0) zimages zsigns zdays zmeans vsgc) ++ (shW K q vw vk vr vp vb vi vwc vl vg vo vsc) ++ (shW K qy o8.1 o7.2.1 o7.2.2.1 o8.2.1 o8.2.2 o7.2.2.2.2.2.1 o7.2.2.2.2.2.2.1 o7.2.2.2.2.2.2.2.1 o7.2.2.2.2.2.2.2.2.1 o7.2.2.2.2.2.2.2.2.2.1 o7.2.2.2.2.2.2.2.2.2.2))) (va_runVN (As := [.int p0, .int p1]) (rest := []) ⟨hx, hb, hml, hown, hts⟩ ((k_X3_liveYear l D K qy o7.1 o7.2.1 o7.2.2.1 o7.2.2.2.1 o7.2.2.2.2.1 o7.2.2.2.2.2.1 o7.2.2.2.2.2.2.1 o7.2.2.2.2.2.2.2.1 o7.2.2.2.2.2.2.2.2.1 o7.2.2.2.2.2.2.2.2.2.1 o7.2.2.2.2.2.2.2.2.2.2 p0 p1 o8 ho8) H.size) ⟨va_cnB 2 hts gX4_year_X3_liveYear_n194 rfl rfl rfl (hN _ (List.mem_of_getElem? (i := 59) rfl)) (hts (.initialized RX3) (List.mem_of_getElem? (i := 8) rfl)) yd_X3_liveYear ⟨Nat.le_of_ble_eq_true rfl, Nat.le_of_ble_eq_true rfl⟩, (hts (.instanceMethod yX3_liveYear) (List.mem_of_getElem? (i := 24) rfl)), (hts (.selects RX3 yX3_liveYear yX3_liveYear) (List.mem_of_getElem? (i := 25) rfl))⟩ (kPreV (ci := 3) (q0 := 11) hP rfl rfl hPc hDc hK hN) rfl rfl hl.1 rfl (lv_room (Nat.le_of_ble_eq_true rfl)) dX4_year_50 ⟨Nat.le_of_ble_eq_true rfl, Nat.le_of_ble_eq_true rfl⟩) hP hD hS hA [11, 12, 13, 14, 15, 16, 17, 18, 19, 20] [0, 1, 2, 3, 4, 5, 6, 7, 8, 9, 10] [0, 1, 2, 3, 4, 5, 6, 7, 8, 9, 10, 11, 12, 13, 14, 15, 16, 17, 18, 19, 20] rfl rfl (by decide) (by decide) rfl (by decide) (fun H locs hP hD hS => ?_)
        refine lv_iload_n hx hb dX4_year_53 rfl (lv_at hl 3 rfl) ?_
        refine lv_iconst (v := 2) hx hb dX4_year_54 (by decide) ?_
        refine lv_icmp_ne (tgt := 66) hx hb dX4_year_55 (by decide) (fun c9 => ?_) (fun c9 => ?_)
        · rw [if_neg c9] at hf
          refine lv_iload_n hx hb dX4_year_66 rfl (lv_at hl 3 rfl) ?_
          refine lv_if_ne (tgt := 83) hx hb dX4_year_67 (by decide) (fun c10 => ?_) (fun c10 => ?_)
          · rw [if_neg c10] at hf
            refine lv_aload_n hx hb dX4_year_83 rfl (lv_at hl 0 rfl) ?_
            refine va_get (D := D) (ci := 4) (v := .ref (qy 0)) (C := RX4) (T := TX4) (N := 7) hx hb hts inX4_year_X4 hown hK hP 0 rfl rfl 1 (by decide) (hts (.fieldLink RX4 16 "WordScales" "yearShop" "LWordScales$Shop;") (List.mem_of_getElem? (i := 1) rfl)) (fun _ h9 => h9) rfl dX4_year_84 ?_
            refine va_getN (D := D) (host := "WordScales") (ci := 3) (v := .ref (qy 1)) (C := RX3) (T := TX3) (N := 11) hx hb hts inX4_year_X3 hown hK hP 11 rfl rfl 0 (by decide) (va_Nw.use rfl (hN _ (List.mem_of_getElem? (i := 0) rfl))) (fun _ h9 => h9) rfl dX4_year_87 ?_
            obtain ⟨o11, ho11, hf⟩ := ob_el hf
            have hPc : va_P D vwCl (iaW K (qy 1) 12 o8.1) H := hP.sub [12] rfl
            have hDc : va_D A (iaW K (qy 1) 12 o8.1) := hD.sub [12] (by decide) rfl
            refine kcg_i (D := D) (wc := (iaW K (qy 1) 12 o8.1)) (wc' := (iaW K (qy 1) 12 o8.1)) (wr := [0, 1, 2, 3, 4, 5, 6, 7, 8, 9, 10, 11, 13, 14, 15, 16, 17, 18, 19, 20].filterMap (fun i => (((xoW ax (q 0) (qy 0) zimages zsigns zdays zmeans vsgc) ++ (shW K q vw vk vr vp vb vi vwc vl vg vo vsc) ++ (shW K qy o8.1 o7.2.1 o7.2.2.1 o8.2.1 o8.2.2 o7.2.2.2.2.2.1 o7.2.2.2.2.2.2.1 o7.2.2.2.2.2.2.2.1 o7.2.2.2.2.2.2.2.2.1 o7.2.2.2.2.2.2.2.2.2.1 o7.2.2.2.2.2.2.2.2.2.2)) : va_W)[i]?)) (ws2 := ((xoW ax (q 0) (qy 0) zimages zsigns zdays zmeans vsgc) ++ (shW K q vw vk vr vp vb vi vwc vl vg vo vsc) ++ (shW K qy o8.1 o7.2.1 o7.2.2.1 o8.2.1 o8.2.2 o7.2.2.2.2.2.1 o7.2.2.2.2.2.2.1 o7.2.2.2.2.2.2.2.1 o7.2.2.2.2.2.2.2.2.1 o7.2.2.2.2.2.2.2.2.2.1 o7.2.2.2.2.2.2.2.2.2.2))) (va_runS (As := [.ref (qy 1)]) (rest := []) ⟨hx, hb, hml, hown, hts⟩ ((k_X4_sumOf l D K (qy 1) 12 o8.1 o11 ho11) H.size) (va_cwS 1 hts gX4_year_X4_sumOf rfl rfl rfl yd_X4_sumOf ⟨Nat.le_of_ble_eq_true rfl, Nat.le_of_ble_eq_true rfl⟩) (kPreS hPc hDc hK hN) rfl rfl hl.1 rfl (lv_room (Nat.le_of_ble_eq_true rfl)) dX4_year_90 ⟨Nat.le_of_ble_eq_true rfl, Nat.le_of_ble_eq_true rfl⟩) hP hD hS hA [12] [0, 1, 2, 3, 4, 5, 6, 7, 8, 9, 10, 11, 13, 14, 15, 16, 17, 18, 19, 20] [0, 1, 2, 3, 4, 5, 6, 7, 8, 9, 10, 11, 20, 12, 13, 14, 15, 16, 17, 18, 19] rfl rfl (by decide) (by decide) rfl (by decide) (fun hzo11 H locs hP hD hS => ?_)
            obtain rfl := Option.some.inj hf
            exact hret rfl rfl rfl hP hD hS dX4_year_93
          · rw [if_pos c10] at hf
            refine lv_aload_n hx hb dX4_year_70 rfl (lv_at hl 0 rfl) ?_
            refine va_get (D := D) (ci := 4) (v := .ref (qy 0)) (C := RX4) (T := TX4) (N := 7) hx hb hts inX4_year_X4 hown hK hP 0 rfl rfl 1 (by decide) (hts (.fieldLink RX4 16 "WordScales" "yearShop" "LWordScales$Shop;") (List.mem_of_getElem? (i := 1) rfl)) (fun _ h9 => h9) rfl dX4_year_71 ?_
            refine va_getN (D := D) (host := "WordScales") (ci := 3) (v := .ref (qy 4)) (C := RX3) (T := TX3) (N := 11) hx hb hts inX4_year_X3 hown hK hP 11 rfl rfl 3 (by decide) (va_Nw.use rfl (hN _ (List.mem_of_getElem? (i := 5) rfl))) (fun _ h9 => h9) rfl dX4_year_74 ?_
            obtain ⟨o12, ho12, hf⟩ := ob_el hf
            have hPc : va_P D vwCl (iaW K (qy 4) 4 o8.2.1) H := hP.sub [15] rfl
            have hDc : va_D A (iaW K (qy 4) 4 o8.2.1) := hD.sub [15] (by decide) rfl
            refine kcg_i (D := D) (wc := (iaW K (qy 4) 4 o8.2.1)) (wc' := (iaW K (qy 4) 4 o8.2.1)) (wr := [0, 1, 2, 3, 4, 5, 6, 7, 8, 9, 10, 11, 12, 13, 14, 16, 17, 18, 19, 20].filterMap (fun i => (((xoW ax (q 0) (qy 0) zimages zsigns zdays zmeans vsgc) ++ (shW K q vw vk vr vp vb vi vwc vl vg vo vsc) ++ (shW K qy o8.1 o7.2.1 o7.2.2.1 o8.2.1 o8.2.2 o7.2.2.2.2.2.1 o7.2.2.2.2.2.2.1 o7.2.2.2.2.2.2.2.1 o7.2.2.2.2.2.2.2.2.1 o7.2.2.2.2.2.2.2.2.2.1 o7.2.2.2.2.2.2.2.2.2.2)) : va_W)[i]?)) (ws2 := ((xoW ax (q 0) (qy 0) zimages zsigns zdays zmeans vsgc) ++ (shW K q vw vk vr vp vb vi vwc vl vg vo vsc) ++ (shW K qy o8.1 o7.2.1 o7.2.2.1 o8.2.1 o8.2.2 o7.2.2.2.2.2.1 o7.2.2.2.2.2.2.1 o7.2.2.2.2.2.2.2.1 o7.2.2.2.2.2.2.2.2.1 o7.2.2.2.2.2.2.2.2.2.1 o7.2.2.2.2.2.2.2.2.2.2))) (va_runS (As := [.ref (qy 4)]) (rest := []) ⟨hx, hb, hml, hown, hts⟩ ((k_X4_sumOf l D K (qy 4) 4 o8.2.1 o12 ho12) H.size) (va_cwS 1 hts gX4_year_X4_sumOf rfl rfl rfl yd_X4_sumOf ⟨Nat.le_of_ble_eq_true rfl, Nat.le_of_ble_eq_true rfl⟩) (kPreS hPc hDc hK hN) rfl rfl hl.1 rfl (lv_room (Nat.le_of_ble_eq_true rfl)) dX4_year_77 ⟨Nat.le_of_ble_eq_true rfl, Nat.le_of_ble_eq_true rfl⟩) hP hD hS hA [15] [0, 1, 2, 3, 4, 5, 6, 7, 8, 9, 10, 11, 12, 13, 14, 16, 17, 18, 19, 20] [0, 1, 2, 3, 4, 5, 6, 7, 8, 9, 10, 11, 12, 13, 14, 20, 15, 16, 17, 18, 19] rfl rfl (by decide) (by decide) rfl (by decide) (fun hzo12 H locs hP hD hS => ?_)
            refine lv_goto (tgt := 93) hx hb dX4_year_80 (by decide) ?_
            obtain rfl := Option.some.inj hf
            exact hret rfl rfl rfl hP hD hS dX4_year_93
        · rw [if_pos c9] at hf
          refine lv_aload_n hx hb dX4_year_58 rfl (lv_at hl 0 rfl) ?_
          refine va_get (D := D) (ci := 4) (v := .ref (qy 0)) (C := RX4) (T := TX4) (N := 7) hx hb hts inX4_year_X4 hown hK hP 0 rfl rfl 1 (by decide) (hts (.fieldLink RX4 16 "WordScales" "yearShop" "LWordScales$Shop;") (List.mem_of_getElem? (i := 1) rfl)) (fun _ h9 => h9) rfl dX4_year_59 ?_
          obtain ⟨o13, ho13, hf⟩ := ob_el hf
          have hPc : va_P D vwCl (shW K qy o8.1 o7.2.1 o7.2.2.1 o8.2.1 o8.2.2 o7.2.2.2.2.2.1 o7.2.2.2.2.2.2.1 o7.2.2.2.2.2.2.2.1 o7.2.2.2.2.2.2.2.2.1 o7.2.2.2.2.2.2.2.2.2.1 o7.2.2.2.2.2.2.2.2.2.2) H := hP.sub [11, 12, 13, 14, 15, 16, 17, 18, 19, 20] rfl
          have hDc : va_D A (shW K qy o8.1 o7.2.1 o7.2.2.1 o8.2.1 o8.2.2 o7.2.2.2.2.2.1 o7.2.2.2.2.2.2.1 o7.2.2.2.2.2.2.2.1 o7.2.2.2.2.2.2.2.2.1 o7.2.2.2.2.2.2.2.2.2.1 o7.2.2.2.2.2.2.2.2.2.2) := hD.sub [11, 12, 13, 14, 15, 16, 17, 18, 19, 20] (by decide) rfl
          refine kcg_i (D := D) (wc := (shW K qy o8.1 o7.2.1 o7.2.2.1 o8.2.1 o8.2.2 o7.2.2.2.2.2.1 o7.2.2.2.2.2.2.1 o7.2.2.2.2.2.2.2.1 o7.2.2.2.2.2.2.2.2.1 o7.2.2.2.2.2.2.2.2.2.1 o7.2.2.2.2.2.2.2.2.2.2)) (wc' := (shW K qy o8.1 o7.2.1 o7.2.2.1 o8.2.1 o8.2.2 o7.2.2.2.2.2.1 o7.2.2.2.2.2.2.1 o7.2.2.2.2.2.2.2.1 o7.2.2.2.2.2.2.2.2.1 o7.2.2.2.2.2.2.2.2.2.1 o7.2.2.2.2.2.2.2.2.2.2)) (wr := [0, 1, 2, 3, 4, 5, 6, 7, 8, 9, 10].filterMap (fun i => (((xoW ax (q 0) (qy 0) zimages zsigns zdays zmeans vsgc) ++ (shW K q vw vk vr vp vb vi vwc vl vg vo vsc) ++ (shW K qy o8.1 o7.2.1 o7.2.2.1 o8.2.1 o8.2.2 o7.2.2.2.2.2.1 o7.2.2.2.2.2.2.1 o7.2.2.2.2.2.2.2.1 o7.2.2.2.2.2.2.2.2.1 o7.2.2.2.2.2.2.2.2.2.1 o7.2.2.2.2.2.2.2.2.2.2)) : va_W)[i]?)) (ws2 := ((xoW ax (q 0) (qy 0) zimages zsigns zdays zmeans vsgc) ++ (shW K q vw vk vr vp vb vi vwc vl vg vo vsc) ++ (shW K qy o8.1 o7.2.1 o7.2.2.1 o8.2.1 o8.2.2 o7.2.2.2.2.2.1 o7.2.2.2.2.2.2.1 o7.2.2.2.2.2.2.2.1 o7.2.2.2.2.2.2.2.2.1 o7.2.2.2.2.2.2.2.2.2.1 o7.2.2.2.2.2.2.2.2.2.2))) (va_runVN (As := []) (rest := []) ⟨hx, hb, hml, hown, hts⟩ ((k_X3_countBelongings l D K qy o8.1 o7.2.1 o7.2.2.1 o8.2.1 o8.2.2 o7.2.2.2.2.2.1 o7.2.2.2.2.2.2.1 o7.2.2.2.2.2.2.2.1 o7.2.2.2.2.2.2.2.2.1 o7.2.2.2.2.2.2.2.2.2.1 o7.2.2.2.2.2.2.2.2.2.2 o13 ho13) H.size) ⟨va_cnB 0 hts gX4_year_X3_countBelongings_n197 rfl rfl rfl (hN _ (List.mem_of_getElem? (i := 60) rfl)) (hts (.initialized RX3) (List.mem_of_getElem? (i := 8) rfl)) yd_X3_countBelongings ⟨Nat.le_of_ble_eq_true rfl, Nat.le_of_ble_eq_true rfl⟩, (hts (.instanceMethod yX3_countBelongings) (List.mem_of_getElem? (i := 61) rfl)), (hts (.selects RX3 yX3_countBelongings yX3_countBelongings) (List.mem_of_getElem? (i := 62) rfl))⟩ (kPreV (ci := 3) (q0 := 11) hP rfl rfl hPc hDc hK hN) rfl rfl hl.1 rfl (lv_room (Nat.le_of_ble_eq_true rfl)) dX4_year_62 ⟨Nat.le_of_ble_eq_true rfl, Nat.le_of_ble_eq_true rfl⟩) hP hD hS hA [11, 12, 13, 14, 15, 16, 17, 18, 19, 20] [0, 1, 2, 3, 4, 5, 6, 7, 8, 9, 10] [0, 1, 2, 3, 4, 5, 6, 7, 8, 9, 10, 11, 12, 13, 14, 15, 16, 17, 18, 19, 20] rfl rfl (by decide) (by decide) rfl (by decide) (fun hzo13 H locs hP hD hS => ?_)
          obtain rfl := Option.some.inj hf
          exact hret rfl rfl rfl hP hD hS dX4_year_65
      · rw [if_pos c6] at hf
        refine lv_bipush (v := (-2)) hx hb dX4_year_30 (by decide) ?_
        obtain rfl := Option.some.inj hf
        exact hret rfl rfl rfl hP hD hS dX4_year_32
def f_X4_tellCount (vsgc : Int32) (vwc : Int32) (vsc : Int32) (p0 : Int32) : Int32 := if p0 = 0 then (vsgc) else (if p0 = 1 then (vwc) else (vsc))
theorem inX4_tellCount_X3 : ∀ w ∈ wsX30, w ∈ wsX4_tellCount := fun w h => List.mem_cons_of_mem _ (List.mem_append_right _ h)
theorem inX4_tellCount_X4 : ∀ w ∈ wsX40, w ∈ wsX4_tellCount := fun w h => List.mem_cons_of_mem _ (List.mem_append_left _ (List.mem_append_right _ h))
theorem yd_X4_tellCount : yX4_tellCount.cls ≠ "java/lang/invoke/MethodHandle" ∧ yX4_tellCount.cls ≠ "java/lang/invoke/VarHandle" ∧ (parseMethodDescriptor yX4_tellCount.desc).map (fun d => d.parameters.length) = some 1 := by decide +kernel
abbrev rmX4_tellCount : Room := { frames := 0, cells := 0, slots := 0, locals := 0 }
set_option maxHeartbeats 4000000 in
set_option maxRecDepth 100000 in
theorem k_X4_tellCount (l : Launch) (D : va_G) (K : Nat → ClassId) (ax : Nat) (q : Nat → Nat) (zyearShop : Nat) (zimages : Nat) (zsigns : Nat) (zdays : Nat) (zmeans : Nat) (vsgc : Int32) (vw : Nat → Int32) (vk : Nat → Int32) (vr : Nat → Int32) (vp : Nat → Int32) (vb : Nat → Int32) (vi : Nat → Int32) (vwc : Int32) (vl : Nat → Int32) (vg : Nat → Int32) (vo : Nat → Int32) (vsc : Int32) (p0 : Int32) (out : Int32) (hf : f_X4_tellCount vsgc vwc vsc p0 = out) : kI l D K .int yX4_tellCount wsX4_tellCount rmX4_tellCount [.ref ax, .int p0] ((xoW ax (q 0) zyearShop zimages zsigns zdays zmeans vsgc) ++ (shW K q vw vk vr vp vb vi vwc vl vg vo vsc)) out ((xoW ax (q 0) zyearShop zimages zsigns zdays zmeans vsgc) ++ (shW K q vw vk vr vp vb vi vwc vl vg vo vsc)) := by
  refine kI.of (cc := cX4_tellCount) (maxL := 2) (by decide) rfl (Nat.le_of_ble_eq_true rfl) ?_
  intro p e s m args below meth c A H0 Q ls hx hb hml hown hts hK hN hA hP hD hS hl hret
  have hown : s.vm.findClass RX4 = some m.cls := hown
  have hl : lv_has ls 2 [(0, .ref ax), (1, .int p0)] := hl
  generalize hH : H0 = H at hP ⊢
  have hS : va_S A H0 H [] := by rw [← hH]; exact hS
  clear hH
  unfold f_X4_tellCount at hf
  refine lv_iload_n hx hb dX4_tellCount_0 rfl (lv_at hl 1 rfl) ?_
  refine lv_if_ne (tgt := 9) hx hb dX4_tellCount_1 (by decide) (fun c1 => ?_) (fun c1 => ?_)
  · rw [if_neg c1] at hf
    refine lv_iload_n hx hb dX4_tellCount_9 rfl (lv_at hl 1 rfl) ?_
    refine lv_iconst (v := 1) hx hb dX4_tellCount_10 (by decide) ?_
    refine lv_icmp_ne (tgt := 24) hx hb dX4_tellCount_11 (by decide) (fun c2 => ?_) (fun c2 => ?_)
    · rw [if_neg c2] at hf
      refine lv_aload_n hx hb dX4_tellCount_24 rfl (lv_at hl 0 rfl) ?_
      refine va_get (D := D) (ci := 4) (v := .ref (q 0)) (C := RX4) (T := TX4) (N := 7) hx hb hts inX4_tellCount_X4 hown hK hP 0 rfl rfl 0 (by decide) (hts (.fieldLink RX4 10 "WordScales" "shop" "LWordScales$Shop;") (List.mem_of_getElem? (i := 2) rfl)) (fun _ h9 => h9) rfl dX4_tellCount_25 ?_
      refine va_getN (D := D) (host := "WordScales") (ci := 3) (v := .int vsc) (C := RX3) (T := TX3) (N := 11) hx hb hts inX4_tellCount_X3 hown hK hP 1 rfl rfl 10 (by decide) (va_Nw.use rfl (hN _ (List.mem_of_getElem? (i := 12) rfl))) (fun _ h9 => h9) rfl dX4_tellCount_28 ?_
      subst hf
      exact hret rfl rfl rfl hP hD hS dX4_tellCount_31
    · rw [if_pos c2] at hf
      refine lv_aload_n hx hb dX4_tellCount_14 rfl (lv_at hl 0 rfl) ?_
      refine va_get (D := D) (ci := 4) (v := .ref (q 0)) (C := RX4) (T := TX4) (N := 7) hx hb hts inX4_tellCount_X4 hown hK hP 0 rfl rfl 0 (by decide) (hts (.fieldLink RX4 10 "WordScales" "shop" "LWordScales$Shop;") (List.mem_of_getElem? (i := 2) rfl)) (fun _ h9 => h9) rfl dX4_tellCount_15 ?_
      refine va_getN (D := D) (host := "WordScales") (ci := 3) (v := .int vwc) (C := RX3) (T := TX3) (N := 11) hx hb hts inX4_tellCount_X3 hown hK hP 1 rfl rfl 6 (by decide) (va_Nw.use rfl (hN _ (List.mem_of_getElem? (i := 8) rfl))) (fun _ h9 => h9) rfl dX4_tellCount_18 ?_
      refine lv_goto (tgt := 31) hx hb dX4_tellCount_21 (by decide) ?_
      subst hf
      exact hret rfl rfl rfl hP hD hS dX4_tellCount_31
  · rw [if_pos c1] at hf
    refine lv_aload_n hx hb dX4_tellCount_4 rfl (lv_at hl 0 rfl) ?_
    refine va_get (D := D) (ci := 4) (v := .int vsgc) (C := RX4) (T := TX4) (N := 7) hx hb hts inX4_tellCount_X4 hown hK hP 0 rfl rfl 4 (by decide) (hts (.fieldLink RX4 27 "WordScales" "signCount" "I") (List.mem_of_getElem? (i := 1) rfl)) (fun _ h9 => h9) rfl dX4_tellCount_5 ?_
    subst hf
    exact hret rfl rfl rfl hP hD hS dX4_tellCount_8
def f_X4_tellWord (vw : Nat → Int32) (vk : Nat → Int32) (vr : Nat → Int32) (p0 : Int32) (p1 : Int32) : Option (Int32) := bd (f_X4_isWord p0) (fun o1 => if o1 = 0 then (some (-2)) else (if p1 = 0 then (chk p0 12 (some (vw (p0).toNatClampNeg))) else (if p1 = 1 then (chk p0 12 (some (vk (p0).toNatClampNeg))) else (if p1 = 2 then (chk p0 12 (some ((vr (p0).toNatClampNeg) &&& ((1 <<< (p0 &&& 31)) ^^^ (-1))))) else (some (-2))))))
theorem inX4_tellWord_X3 : ∀ w ∈ wsX30, w ∈ wsX4_tellWord := fun w h => List.mem_cons_of_mem _ (List.mem_append_right _ h)
theorem inX4_tellWord_X4 : ∀ w ∈ wsX40, w ∈ wsX4_tellWord := fun w h => List.mem_cons_of_mem _ (List.mem_append_left _ (List.mem_append_right _ h))
theorem yd_X4_tellWord : yX4_tellWord.cls ≠ "java/lang/invoke/MethodHandle" ∧ yX4_tellWord.cls ≠ "java/lang/invoke/VarHandle" ∧ (parseMethodDescriptor yX4_tellWord.desc).map (fun d => d.parameters.length) = some 2 := by decide +kernel
abbrev rmX4_tellWord : Room := { frames := 2, cells := 0, slots := 0, locals := 42 }
set_option maxHeartbeats 4000000 in
set_option maxRecDepth 100000 in
theorem k_X4_tellWord (l : Launch) (D : va_G) (K : Nat → ClassId) (ax : Nat) (q : Nat → Nat) (zyearShop : Nat) (zimages : Nat) (zsigns : Nat) (zdays : Nat) (zmeans : Nat) (vsgc : Int32) (vw : Nat → Int32) (vk : Nat → Int32) (vr : Nat → Int32) (vp : Nat → Int32) (vb : Nat → Int32) (vi : Nat → Int32) (vwc : Int32) (vl : Nat → Int32) (vg : Nat → Int32) (vo : Nat → Int32) (vsc : Int32) (p0 : Int32) (p1 : Int32) (out : Int32) (hf : f_X4_tellWord vw vk vr p0 p1 = some out) : kI l D K .int yX4_tellWord wsX4_tellWord rmX4_tellWord [.ref ax, .int p0, .int p1] ((xoW ax (q 0) zyearShop zimages zsigns zdays zmeans vsgc) ++ (shW K q vw vk vr vp vb vi vwc vl vg vo vsc)) out ((xoW ax (q 0) zyearShop zimages zsigns zdays zmeans vsgc) ++ (shW K q vw vk vr vp vb vi vwc vl vg vo vsc)) := by
  refine kI.of (cc := cX4_tellWord) (maxL := 3) (by decide) rfl (Nat.le_of_ble_eq_true rfl) ?_
  intro p e s m args below meth c A H0 Q ls hx hb hml hown hts hK hN hA hP hD hS hl hret
  have hown : s.vm.findClass RX4 = some m.cls := hown
  have hl : lv_has ls 3 [(0, .ref ax), (1, .int p0), (2, .int p1)] := hl
  generalize hH : H0 = H at hP ⊢
  have hS : va_S A H0 H [] := by rw [← hH]; exact hS
  clear hH
  unfold f_X4_tellWord at hf
  refine lv_iload_n hx hb dX4_tellWord_0 rfl (lv_at hl 1 rfl) ?_
  obtain ⟨o1, ho1, hf⟩ := bd_el hf
  refine kc0_i (D := D) (va_runS (As := [.int p0]) (rest := []) ⟨hx, hb, hml, hown, hts⟩ ((k_X4_isWord l D K p0 o1 ho1) H.size) (va_cwS 1 hts gX4_tellWord_X4_isWord rfl rfl rfl yd_X4_isWord ⟨Nat.le_of_ble_eq_true rfl, Nat.le_of_ble_eq_true rfl⟩) (kPreS va_P_nil (va_D_nil (A := fun _ => True)) hK hN) rfl rfl hl.1 rfl (lv_room (Nat.le_of_ble_eq_true rfl)) dX4_tellWord_1 ⟨Nat.le_of_ble_eq_true rfl, Nat.le_of_ble_eq_true rfl⟩) hP hS hA (fun hzo1 H locs hP hS => ?_)
  refine lv_if_ne (tgt := 10) hx hb dX4_tellWord_4 (by decide) (fun c2 => ?_) (fun c2 => ?_)
  · rw [if_neg c2] at hf
    refine lv_iload_n hx hb dX4_tellWord_10 rfl (lv_at hl 2 rfl) ?_
    refine lv_tab3 (t0 := 36) (t1 := 46) (t2 := 56) (td := 72) hx hb dX4_tellWord_11 (by decide) (by decide) (by decide) (by decide) (fun c3 => ?_) (fun c3 c4 => ?_) (fun c3 c4 c5 => ?_) (fun c3 c4 c5 => ?_)
    · rw [if_pos c3] at hf
      refine lv_aload_n hx hb dX4_tellWord_36 rfl (lv_at hl 0 rfl) ?_
      refine va_get (D := D) (ci := 4) (v := .ref (q 0)) (C := RX4) (T := TX4) (N := 7) hx hb hts inX4_tellWord_X4 hown hK hP 0 rfl rfl 0 (by decide) (hts (.fieldLink RX4 10 "WordScales" "shop" "LWordScales$Shop;") (List.mem_of_getElem? (i := 1) rfl)) (fun _ h9 => h9) rfl dX4_tellWord_37 ?_
      refine va_getN (D := D) (host := "WordScales") (ci := 3) (v := .ref (q 1)) (C := RX3) (T := TX3) (N := 11) hx hb hts inX4_tellWord_X3 hown hK hP 1 rfl rfl 0 (by decide) (va_Nw.use rfl (hN _ (List.mem_of_getElem? (i := 0) rfl))) (fun _ h9 => h9) rfl dX4_tellWord_40 ?_
      refine lv_iload_n hx hb dX4_tellWord_43 rfl (lv_at hl 1 rfl) ?_
      obtain ⟨v6, hf⟩ := chk_el hf
      refine va_iald (D := D) (f := vw) hx hb hK hP 2 0 rfl rfl v6 dX4_tellWord_44 ?_
      obtain rfl := Option.some.inj hf
      exact hret rfl rfl rfl hP hD hS dX4_tellWord_45
    · rw [if_neg c3, if_pos c4] at hf
      refine lv_aload_n hx hb dX4_tellWord_46 rfl (lv_at hl 0 rfl) ?_
      refine va_get (D := D) (ci := 4) (v := .ref (q 0)) (C := RX4) (T := TX4) (N := 7) hx hb hts inX4_tellWord_X4 hown hK hP 0 rfl rfl 0 (by decide) (hts (.fieldLink RX4 10 "WordScales" "shop" "LWordScales$Shop;") (List.mem_of_getElem? (i := 1) rfl)) (fun _ h9 => h9) rfl dX4_tellWord_47 ?_
      refine va_getN (D := D) (host := "WordScales") (ci := 3) (v := .ref (q 2)) (C := RX3) (T := TX3) (N := 11) hx hb hts inX4_tellWord_X3 hown hK hP 1 rfl rfl 1 (by decide) (va_Nw.use rfl (hN _ (List.mem_of_getElem? (i := 2) rfl))) (fun _ h9 => h9) rfl dX4_tellWord_50 ?_
      refine lv_iload_n hx hb dX4_tellWord_53 rfl (lv_at hl 1 rfl) ?_
      obtain ⟨v7, hf⟩ := chk_el hf
      refine va_iald (D := D) (f := vk) hx hb hK hP 3 0 rfl rfl v7 dX4_tellWord_54 ?_
      obtain rfl := Option.some.inj hf
      exact hret rfl rfl rfl hP hD hS dX4_tellWord_55
    · rw [if_neg c3, if_neg c4, if_pos c5] at hf
      refine lv_aload_n hx hb dX4_tellWord_56 rfl (lv_at hl 0 rfl) ?_
      refine va_get (D := D) (ci := 4) (v := .ref (q 0)) (C := RX4) (T := TX4) (N := 7) hx hb hts inX4_tellWord_X4 hown hK hP 0 rfl rfl 0 (by decide) (hts (.fieldLink RX4 10 "WordScales" "shop" "LWordScales$Shop;") (List.mem_of_getElem? (i := 1) rfl)) (fun _ h9 => h9) rfl dX4_tellWord_57 ?_
      refine va_getN (D := D) (host := "WordScales") (ci := 3) (v := .ref (q 3)) (C := RX3) (T := TX3) (N := 11) hx hb hts inX4_tellWord_X3 hown hK hP 1 rfl rfl 2 (by decide) (va_Nw.use rfl (hN _ (List.mem_of_getElem? (i := 4) rfl))) (fun _ h9 => h9) rfl dX4_tellWord_60 ?_
      refine lv_iload_n hx hb dX4_tellWord_63 rfl (lv_at hl 1 rfl) ?_
      obtain ⟨v8, hf⟩ := chk_el hf
      refine va_iald (D := D) (f := vr) hx hb hK hP 4 0 rfl rfl v8 dX4_tellWord_64 ?_
      refine lv_iconst (v := 1) hx hb dX4_tellWord_65 (by decide) ?_
      refine lv_iload_n hx hb dX4_tellWord_66 rfl (lv_at hl 1 rfl) ?_
      refine lv_ishl hx hb dX4_tellWord_67 ?_
      refine lv_iconst (v := (-1)) hx hb dX4_tellWord_68 (by decide) ?_
      refine lv_ixor hx hb dX4_tellWord_69 ?_
      refine lv_iand hx hb dX4_tellWord_70 ?_
      obtain rfl := Option.some.inj hf
      exact hret rfl rfl rfl hP hD hS dX4_tellWord_71
    · rw [if_neg c3, if_neg c4, if_neg c5] at hf
      refine lv_bipush (v := (-2)) hx hb dX4_tellWord_72 (by decide) ?_
      obtain rfl := Option.some.inj hf
      exact hret rfl rfl rfl hP hD hS dX4_tellWord_74
  · rw [if_pos c2] at hf
    refine lv_bipush (v := (-2)) hx hb dX4_tellWord_7 (by decide) ?_
    obtain rfl := Option.some.inj hf
    exact hret rfl rfl rfl hP hD hS dX4_tellWord_9
def f_X4_told (vsgc : Int32) (vw : Nat → Int32) (vk : Nat → Int32) (vr : Nat → Int32) (vp : Nat → Int32) (vb : Nat → Int32) (vwc : Int32) (vsc : Int32) (p0 : Int32) : Option (Int32) := bd (f_X4_isWithin p0 (0) (2)) (fun o1 => if o1 = 0 then (bd (f_X4_isWithin p0 (10) (13)) (fun o3 => if o3 = 0 then (bd (f_X4_isWithin p0 (20) (23)) (fun o5 => if o5 = 0 then (bd (f_X4_isWithin p0 (100) (219)) (fun o7 => if o7 = 0 then (some (-2)) else (ob (f_X4_tellWord vw vk vr ((p0 - 100) / 10) ((p0 - 100) - (p0 - 100) / 10 * 10)) (fun o9 => some o9)))) else (chk (p0 - 20) 4 (some (vb ((p0 - 20)).toNatClampNeg))))) else (chk (p0 - 10) 4 (some (vp ((p0 - 10)).toNatClampNeg))))) else (bd (f_X4_tellCount vsgc vwc vsc p0) (fun o12 => some o12)))
theorem inX4_told_X3 : ∀ w ∈ wsX30, w ∈ wsX4_told := fun w h => List.mem_cons_of_mem _ (List.mem_append_right _ h)
theorem inX4_told_X4 : ∀ w ∈ wsX40, w ∈ wsX4_told := fun w h => List.mem_cons_of_mem _ (List.mem_append_left _ (List.mem_append_right _ h))
theorem yd_X4_told : yX4_told.cls ≠ "java/lang/invoke/MethodHandle" ∧ yX4_told.cls ≠ "java/lang/invoke/VarHandle" ∧ (parseMethodDescriptor yX4_told.desc).map (fun d => d.parameters.length) = some 1 := by decide +kernel
abbrev rmX4_told : Room := { frames := 3, cells := 0, slots := 0, locals := 64 }
set_option maxHeartbeats 4000000 in
set_option maxRecDepth 100000 in
theorem k_X4_told (l : Launch) (D : va_G) (K : Nat → ClassId) (ax : Nat) (q : Nat → Nat) (zyearShop : Nat) (zimages : Nat) (zsigns : Nat) (zdays : Nat) (zmeans : Nat) (vsgc : Int32) (vw : Nat → Int32) (vk : Nat → Int32) (vr : Nat → Int32) (vp : Nat → Int32) (vb : Nat → Int32) (vi : Nat → Int32) (vwc : Int32) (vl : Nat → Int32) (vg : Nat → Int32) (vo : Nat → Int32) (vsc : Int32) (p0 : Int32) (out : Int32) (hf : f_X4_told vsgc vw vk vr vp vb vwc vsc p0 = some out) : kI l D K .int yX4_told wsX4_told rmX4_told [.ref ax, .int p0] ((xoW ax (q 0) zyearShop zimages zsigns zdays zmeans vsgc) ++ (shW K q vw vk vr vp vb vi vwc vl vg vo vsc)) out ((xoW ax (q 0) zyearShop zimages zsigns zdays zmeans vsgc) ++ (shW K q vw vk vr vp vb vi vwc vl vg vo vsc)) := by
  refine kI.of (cc := cX4_told) (maxL := 2) (by decide) rfl (Nat.le_of_ble_eq_true rfl) ?_
  intro p e s m args below meth c A H0 Q ls hx hb hml hown hts hK hN hA hP hD hS hl hret
  have hown : s.vm.findClass RX4 = some m.cls := hown
  have hl : lv_has ls 2 [(0, .ref ax), (1, .int p0)] := hl
  generalize hH : H0 = H at hP ⊢
  have hS : va_S A H0 H [] := by rw [← hH]; exact hS
  clear hH
  unfold f_X4_told at hf
  refine lv_iload_n hx hb dX4_told_0 rfl (lv_at hl 1 rfl) ?_
  refine lv_iconst (v := 0) hx hb dX4_told_1 (by decide) ?_
  refine lv_iconst (v := 2) hx hb dX4_told_2 (by decide) ?_
  obtain ⟨o1, ho1, hf⟩ := bd_el hf
  refine kc0_i (D := D) (va_runS (As := [.int p0, .int 0, .int 2]) (rest := []) ⟨hx, hb, hml, hown, hts⟩ ((k_X4_isWithin l D K p0 (0) (2) o1 ho1) H.size) (va_cwS 3 hts gX4_told_X4_isWithin rfl rfl rfl yd_X4_isWithin ⟨Nat.le_of_ble_eq_true rfl, Nat.le_of_ble_eq_true rfl⟩) (kPreS va_P_nil (va_D_nil (A := fun _ => True)) hK hN) rfl rfl hl.1 rfl (lv_room (Nat.le_of_ble_eq_true rfl)) dX4_told_3 ⟨Nat.le_of_ble_eq_true rfl, Nat.le_of_ble_eq_true rfl⟩) hP hS hA (fun hzo1 H locs hP hS => ?_)
  refine lv_if_eq (tgt := 15) hx hb dX4_told_6 (by decide) (fun c2 => ?_) (fun c2 => ?_)
  · rw [if_pos c2] at hf
    refine lv_iload_n hx hb dX4_told_15 rfl (lv_at hl 1 rfl) ?_
    refine lv_bipush (v := 10) hx hb dX4_told_16 (by decide) ?_
    refine lv_bipush (v := 13) hx hb dX4_told_18 (by decide) ?_
    obtain ⟨o3, ho3, hf⟩ := bd_el hf
    refine kc0_i (D := D) (va_runS (As := [.int p0, .int 10, .int 13]) (rest := []) ⟨hx, hb, hml, hown, hts⟩ ((k_X4_isWithin l D K p0 (10) (13) o3 ho3) H.size) (va_cwS 3 hts gX4_told_X4_isWithin rfl rfl rfl yd_X4_isWithin ⟨Nat.le_of_ble_eq_true rfl, Nat.le_of_ble_eq_true rfl⟩) (kPreS va_P_nil (va_D_nil (A := fun _ => True)) hK hN) rfl rfl hl.1 rfl (lv_room (Nat.le_of_ble_eq_true rfl)) dX4_told_20 ⟨Nat.le_of_ble_eq_true rfl, Nat.le_of_ble_eq_true rfl⟩) hP hS hA (fun hzo3 H locs hP hS => ?_)
    refine lv_if_eq (tgt := 39) hx hb dX4_told_23 (by decide) (fun c4 => ?_) (fun c4 => ?_)
    · rw [if_pos c4] at hf
      refine lv_iload_n hx hb dX4_told_39 rfl (lv_at hl 1 rfl) ?_
      refine lv_bipush (v := 20) hx hb dX4_told_40 (by decide) ?_
      refine lv_bipush (v := 23) hx hb dX4_told_42 (by decide) ?_
      obtain ⟨o5, ho5, hf⟩ := bd_el hf
      refine kc0_i (D := D) (va_runS (As := [.int p0, .int 20, .int 23]) (rest := []) ⟨hx, hb, hml, hown, hts⟩ ((k_X4_isWithin l D K p0 (20) (23) o5 ho5) H.size) (va_cwS 3 hts gX4_told_X4_isWithin rfl rfl rfl yd_X4_isWithin ⟨Nat.le_of_ble_eq_true rfl, Nat.le_of_ble_eq_true rfl⟩) (kPreS va_P_nil (va_D_nil (A := fun _ => True)) hK hN) rfl rfl hl.1 rfl (lv_room (Nat.le_of_ble_eq_true rfl)) dX4_told_44 ⟨Nat.le_of_ble_eq_true rfl, Nat.le_of_ble_eq_true rfl⟩) hP hS hA (fun hzo5 H locs hP hS => ?_)
      refine lv_if_eq (tgt := 63) hx hb dX4_told_47 (by decide) (fun c6 => ?_) (fun c6 => ?_)
      · rw [if_pos c6] at hf
        refine lv_iload_n hx hb dX4_told_63 rfl (lv_at hl 1 rfl) ?_
        refine lv_bipush (v := 100) hx hb dX4_told_64 (by decide) ?_
        refine lv_sipush (v := 219) hx hb dX4_told_66 (by decide) ?_
        obtain ⟨o7, ho7, hf⟩ := bd_el hf
        refine kc0_i (D := D) (va_runS (As := [.int p0, .int 100, .int 219]) (rest := []) ⟨hx, hb, hml, hown, hts⟩ ((k_X4_isWithin l D K p0 (100) (219) o7 ho7) H.size) (va_cwS 3 hts gX4_told_X4_isWithin rfl rfl rfl yd_X4_isWithin ⟨Nat.le_of_ble_eq_true rfl, Nat.le_of_ble_eq_true rfl⟩) (kPreS va_P_nil (va_D_nil (A := fun _ => True)) hK hN) rfl rfl hl.1 rfl (lv_room (Nat.le_of_ble_eq_true rfl)) dX4_told_69 ⟨Nat.le_of_ble_eq_true rfl, Nat.le_of_ble_eq_true rfl⟩) hP hS hA (fun hzo7 H locs hP hS => ?_)
        refine lv_if_eq (tgt := 94) hx hb dX4_told_72 (by decide) (fun c8 => ?_) (fun c8 => ?_)
        · rw [if_pos c8] at hf
          refine lv_bipush (v := (-2)) hx hb dX4_told_94 (by decide) ?_
          obtain rfl := Option.some.inj hf
          exact hret rfl rfl rfl hP hD hS dX4_told_96
        · rw [if_neg c8] at hf
          refine lv_aload_n hx hb dX4_told_75 rfl (lv_at hl 0 rfl) ?_
          refine lv_iload_n hx hb dX4_told_76 rfl (lv_at hl 1 rfl) ?_
          refine lv_bipush (v := 100) hx hb dX4_told_77 (by decide) ?_
          refine lv_isub hx hb dX4_told_79 ?_
          refine lv_bipush (v := 10) hx hb dX4_told_80 (by decide) ?_
          refine lv_idiv hx hb dX4_told_82 (by decide) ?_
          refine lv_iload_n hx hb dX4_told_83 rfl (lv_at hl 1 rfl) ?_
          refine lv_bipush (v := 100) hx hb dX4_told_84 (by decide) ?_
          refine lv_isub hx hb dX4_told_86 ?_
          refine lv_bipush (v := 10) hx hb dX4_told_87 (by decide) ?_
          refine lv_irem hx hb dX4_told_89 (by decide) ?_
          obtain ⟨o9, ho9, hf⟩ := ob_el hf
          refine kcw_i (D := D) (va_runV (As := [.int ((p0 - 100) / 10), .int ((p0 - 100) - (p0 - 100) / 10 * 10)]) (rest := []) ⟨hx, hb, hml, hown, hts⟩ ((k_X4_tellWord l D K ax q zyearShop zimages zsigns zdays zmeans vsgc vw vk vr vp vb vi vwc vl vg vo vsc ((p0 - 100) / 10) ((p0 - 100) - (p0 - 100) / 10 * 10) o9 ho9) H.size) (cwV 2 hts gX4_told_X4_tellWord rfl rfl rfl ⟨rfl, yd_X4_tellWord⟩ ⟨Nat.le_of_ble_eq_true rfl, Nat.le_of_ble_eq_true rfl⟩) (kPreV (ci := 4) (q0 := 0) hP rfl rfl hP hD hK hN) rfl rfl hl.1 rfl (lv_room (Nat.le_of_ble_eq_true rfl)) dX4_told_90 ⟨Nat.le_of_ble_eq_true rfl, Nat.le_of_ble_eq_true rfl⟩) hD hS hA (fun hzo9 H locs hP hD hS => ?_)
          have hP : va_P D vwCl ((xoW ax (q 0) zyearShop zimages zsigns zdays zmeans vsgc) ++ (shW K q vw vk vr vp vb vi vwc vl vg vo vsc)) H := hP
          have hD : va_D A ((xoW ax (q 0) zyearShop zimages zsigns zdays zmeans vsgc) ++ (shW K q vw vk vr vp vb vi vwc vl vg vo vsc)) := hD
          obtain rfl := Option.some.inj hf
          exact hret rfl rfl rfl hP hD hS dX4_told_93
      · rw [if_neg c6] at hf
        refine lv_aload_n hx hb dX4_told_50 rfl (lv_at hl 0 rfl) ?_
        refine va_get (D := D) (ci := 4) (v := .ref (q 0)) (C := RX4) (T := TX4) (N := 7) hx hb hts inX4_told_X4 hown hK hP 0 rfl rfl 0 (by decide) (hts (.fieldLink RX4 10 "WordScales" "shop" "LWordScales$Shop;") (List.mem_of_getElem? (i := 1) rfl)) (fun _ h9 => h9) rfl dX4_told_51 ?_
        refine va_getN (D := D) (host := "WordScales") (ci := 3) (v := .ref (q 5)) (C := RX3) (T := TX3) (N := 11) hx hb hts inX4_told_X3 hown hK hP 1 rfl rfl 4 (by decide) (va_Nw.use rfl (hN _ (List.mem_of_getElem? (i := 6) rfl))) (fun _ h9 => h9) rfl dX4_told_54 ?_
        refine lv_iload_n hx hb dX4_told_57 rfl (lv_at hl 1 rfl) ?_
        refine lv_bipush (v := 20) hx hb dX4_told_58 (by decide) ?_
        refine lv_isub hx hb dX4_told_60 ?_
        obtain ⟨v10, hf⟩ := chk_el hf
        refine va_iald (D := D) (f := vb) hx hb hK hP 6 0 rfl rfl v10 dX4_told_61 ?_
        obtain rfl := Option.some.inj hf
        exact hret rfl rfl rfl hP hD hS dX4_told_62
    · rw [if_neg c4] at hf
      refine lv_aload_n hx hb dX4_told_26 rfl (lv_at hl 0 rfl) ?_
      refine va_get (D := D) (ci := 4) (v := .ref (q 0)) (C := RX4) (T := TX4) (N := 7) hx hb hts inX4_told_X4 hown hK hP 0 rfl rfl 0 (by decide) (hts (.fieldLink RX4 10 "WordScales" "shop" "LWordScales$Shop;") (List.mem_of_getElem? (i := 1) rfl)) (fun _ h9 => h9) rfl dX4_told_27 ?_
      refine va_getN (D := D) (host := "WordScales") (ci := 3) (v := .ref (q 4)) (C := RX3) (T := TX3) (N := 11) hx hb hts inX4_told_X3 hown hK hP 1 rfl rfl 3 (by decide) (va_Nw.use rfl (hN _ (List.mem_of_getElem? (i := 5) rfl))) (fun _ h9 => h9) rfl dX4_told_30 ?_
      refine lv_iload_n hx hb dX4_told_33 rfl (lv_at hl 1 rfl) ?_
      refine lv_bipush (v := 10) hx hb dX4_told_34 (by decide) ?_
      refine lv_isub hx hb dX4_told_36 ?_
      obtain ⟨v11, hf⟩ := chk_el hf
      refine va_iald (D := D) (f := vp) hx hb hK hP 5 0 rfl rfl v11 dX4_told_37 ?_
      obtain rfl := Option.some.inj hf
      exact hret rfl rfl rfl hP hD hS dX4_told_38
  · rw [if_neg c2] at hf
    refine lv_aload_n hx hb dX4_told_9 rfl (lv_at hl 0 rfl) ?_
    refine lv_iload_n hx hb dX4_told_10 rfl (lv_at hl 1 rfl) ?_
    obtain ⟨o12, ho12, hf⟩ := bd_el hf
    refine kcw_i (D := D) (va_runV (As := [.int p0]) (rest := []) ⟨hx, hb, hml, hown, hts⟩ ((k_X4_tellCount l D K ax q zyearShop zimages zsigns zdays zmeans vsgc vw vk vr vp vb vi vwc vl vg vo vsc p0 o12 ho12) H.size) (cwV 1 hts gX4_told_X4_tellCount rfl rfl rfl ⟨rfl, yd_X4_tellCount⟩ ⟨Nat.le_of_ble_eq_true rfl, Nat.le_of_ble_eq_true rfl⟩) (kPreV (ci := 4) (q0 := 0) hP rfl rfl hP hD hK hN) rfl rfl hl.1 rfl (lv_room (Nat.le_of_ble_eq_true rfl)) dX4_told_11 ⟨Nat.le_of_ble_eq_true rfl, Nat.le_of_ble_eq_true rfl⟩) hD hS hA (fun hzo12 H locs hP hD hS => ?_)
    have hP : va_P D vwCl ((xoW ax (q 0) zyearShop zimages zsigns zdays zmeans vsgc) ++ (shW K q vw vk vr vp vb vi vwc vl vg vo vsc)) H := hP
    have hD : va_D A ((xoW ax (q 0) zyearShop zimages zsigns zdays zmeans vsgc) ++ (shW K q vw vk vr vp vb vi vwc vl vg vo vsc)) := hD
    obtain rfl := Option.some.inj hf
    exact hret rfl rfl rfl hP hD hS dX4_told_14
