def s_X5_year_154 (p2 : Int32) (e53_has : Nat → Int32) (e53_purse : Nat → Int32) (x : Int32 × Int32) : Option ((Int32 × Int32) ⊕ (Int32 × Int32)) := if 4 ≤ x.2 then (some (.inr (x.1, x.2))) else (if p2 = 0 then (chk x.2 4 (some (.inl ((x.1 + (e53_purse (x.2).toNatClampNeg)), (x.2 + 1))))) else (if p2 = 2 then (chk x.2 4 (ob (f_X5_ones (e53_has (x.2).toNatClampNeg)) (fun o19 => some (.inl ((x.1 + o19), (x.2 + 1)))))) else (some (.inl ((x.1 + 0), (x.2 + 1))))))
def s_X5_year_53 (vkind : Nat → Int32) (p1 : Int32) (x : Int32 × Int32 × Int32 × (Nat → Int32) × Int32 × Int32 × Int32 × Int32 × (Nat → Int32) × Int32 × (Nat → Int32)) : Option ((Int32 × Int32 × Int32 × (Nat → Int32) × Int32 × Int32 × Int32 × Int32 × (Nat → Int32) × Int32 × (Nat → Int32)) ⊕ (Int32 × Int32 × Int32 × (Nat → Int32) × Int32 × Int32 × Int32 × Int32 × (Nat → Int32) × Int32 × (Nat → Int32))) := if p1 ≤ x.2.1 then (some (.inr (x.1, x.2.1, x.2.2.1, x.2.2.2.1, x.2.2.2.2.1, x.2.2.2.2.2.1, x.2.2.2.2.2.2.1, x.2.2.2.2.2.2.2.1, x.2.2.2.2.2.2.2.2.1, x.2.2.2.2.2.2.2.2.2.1, x.2.2.2.2.2.2.2.2.2.2))) else (bd (f_X5_actBy (((((75 * x.1.toInt64) + 74) - ((75 * x.1.toInt64) + 74) / 65537 * 65537).toInt32 / 48) - ((((75 * x.1.toInt64) + 74) - ((75 * x.1.toInt64) + 74) / 65537 * 65537).toInt32 / 48) / 6 * 6)) (fun o22 => ob (f_X5_whyNot x.2.2.2.2.2.2.2.2.2.2 x.2.2.2.2.2.2.2.2.1 x.2.2.2.1 x.2.2.2.2.2.2.2.1 o22 ((((75 * x.1.toInt64) + 74) - ((75 * x.1.toInt64) + 74) / 65537 * 65537).toInt32 - (((75 * x.1.toInt64) + 74) - ((75 * x.1.toInt64) + 74) / 65537 * 65537).toInt32 / 4 * 4) (((((75 * x.1.toInt64) + 74) - ((75 * x.1.toInt64) + 74) / 65537 * 65537).toInt32 / 4) - ((((75 * x.1.toInt64) + 74) - ((75 * x.1.toInt64) + 74) / 65537 * 65537).toInt32 / 4) / 12 * 12) (((((75 * x.1.toInt64) + 74) - ((75 * x.1.toInt64) + 74) / 65537 * 65537).toInt32 / 288) - ((((75 * x.1.toInt64) + 74) - ((75 * x.1.toInt64) + 74) / 65537 * 65537).toInt32 / 288) / 4 * 4)) (fun o23 => if o23 = 0 then (ob (f_X5_happen x.2.2.2.2.2.2.2.2.2.2 vkind x.2.2.2.2.2.2.2.2.1 x.2.2.2.1 x.2.2.2.2.2.2.2.1 x.2.2.2.2.2.2.1 x.2.2.1 x.2.2.2.2.2.2.2.2.2.1 x.2.2.2.2.1 x.2.2.2.2.2.1 o22 ((((75 * x.1.toInt64) + 74) - ((75 * x.1.toInt64) + 74) / 65537 * 65537).toInt32 - (((75 * x.1.toInt64) + 74) - ((75 * x.1.toInt64) + 74) / 65537 * 65537).toInt32 / 4 * 4) (((((75 * x.1.toInt64) + 74) - ((75 * x.1.toInt64) + 74) / 65537 * 65537).toInt32 / 4) - ((((75 * x.1.toInt64) + 74) - ((75 * x.1.toInt64) + 74) / 65537 * 65537).toInt32 / 4) / 12 * 12) (((((75 * x.1.toInt64) + 74) - ((75 * x.1.toInt64) + 74) / 65537 * 65537).toInt32 / 288) - ((((75 * x.1.toInt64) + 74) - ((75 * x.1.toInt64) + 74) / 65537 * 65537).toInt32 / 288) / 4 * 4)) (fun o25 => some (.inl ((((75 * x.1.toInt64) + 74) - ((75 * x.1.toInt64) + 74) / 65537 * 65537).toInt32, (x.2.1 + 1), o25.2.2.2.2.2.1, o25.2.2.1, o25.2.2.2.2.2.2.2.1, o25.2.2.2.2.2.2.2.2, o25.2.2.2.2.1, o25.2.2.2.1, o25.2.1, o25.2.2.2.2.2.2.1, o25.1)))) else (some (.inl ((((75 * x.1.toInt64) + 74) - ((75 * x.1.toInt64) + 74) / 65537 * 65537).toInt32, (x.2.1 + 1), x.2.2.1, x.2.2.2.1, x.2.2.2.2.1, x.2.2.2.2.2.1, x.2.2.2.2.2.2.1, x.2.2.2.2.2.2.2.1, x.2.2.2.2.2.2.2.2.1, x.2.2.2.2.2.2.2.2.2.1, x.2.2.2.2.2.2.2.2.2.2))))))
def f_X5_year (vweight : Nat → Int32) (vkind : Nat → Int32) (vpurse : Nat → Int32) (vhas : Nat → Int32) (vplace : Int32) (vopenMany : Int32) (vended : Int32) (vspoken : Int32) (vheaviest : Int32) (vheaviestWeight : Int32) (vhad : Nat → Int32) (p0 : Int32) (p1 : Int32) (p2 : Int32) : Option (Int32 × (Nat → Int32) × (Nat → Int32) × (Nat → Int32) × Int32 × Int32 × Int32 × Int32 × Int32 × Int32 × (Nat → Int32)) := bd (f_X5_in p0.toInt64 (0) (9999)) (fun o1 => if o1 = 0 then (some ((-2), vweight, vpurse, vhas, vplace, vopenMany, vended, vspoken, vheaviest, vheaviestWeight, vhad)) else (bd (f_X5_in p1.toInt64 (1) (99)) (fun o3 => if o3 = 0 then (some ((-2), vweight, vpurse, vhas, vplace, vopenMany, vended, vspoken, vheaviest, vheaviestWeight, vhad)) else (bd (f_X5_in p2.toInt64 (0) (2)) (fun o5 => if o5 = 0 then (some ((-2), vweight, vpurse, vhas, vplace, vopenMany, vended, vspoken, vheaviest, vheaviestWeight, vhad)) else (ob (f_X5_keepNow vweight vpurse vhas vhad) (fun o7 => bd (f_X5_beginCount) (fun o8 => ob (wh (s_X5_year_53 vkind p1) 5000 (p0, 0, o8.2.2.1, vhas, o8.2.2.2.2.1, o8.2.2.2.2.2, o8.2.1, o8.1, vpurse, o8.2.2.2.1, vweight)) (fun r9 => ob (wh (s_X5_year_154 p2 r9.2.2.2.1 r9.2.2.2.2.2.2.2.2.1) 5000 (0, 0)) (fun r10 => if p2 = 1 then (ob (f_X5_costOf r9.2.2.2.2.2.2.2.2.2.2 (4095)) (fun o13 => ob (f_X5_back r9.2.2.2.2.2.2.2.2.2.2 r9.2.2.2.2.2.2.2.2.1 r9.2.2.2.1 o7 o13) (fun o14 => some (o14.1, o14.2.1, o14.2.2.1, o14.2.2.2, r9.2.2.2.2.2.2.2.1, r9.2.2.2.2.2.2.1, r9.2.2.1, r9.2.2.2.2.2.2.2.2.2.1, r9.2.2.2.2.1, r9.2.2.2.2.2.1, o7)))) else (ob (f_X5_back r9.2.2.2.2.2.2.2.2.2.2 r9.2.2.2.2.2.2.2.2.1 r9.2.2.2.1 o7 r10.1) (fun o12 => some (o12.1, o12.2.1, o12.2.2.1, o12.2.2.2, r9.2.2.2.2.2.2.2.1, r9.2.2.2.2.2.2.1, r9.2.2.1, r9.2.2.2.2.2.2.2.2.2.1, r9.2.2.2.2.1, r9.2.2.2.2.2.1, o7)))))))))))))
theorem inX5_year_X5 : ∀ w ∈ wsX50, w ∈ wsX5_year := fun w h => List.mem_cons_of_mem _ (List.mem_append_right _ h)
theorem yd_X5_year : yX5_year.cls ≠ "java/lang/invoke/MethodHandle" ∧ yX5_year.cls ≠ "java/lang/invoke/VarHandle" ∧ (parseMethodDescriptor yX5_year.desc).map (fun d => d.parameters.length) = some 3 := by decide +kernel
abbrev rmX5_year : Room := { frames := 3, cells := 0, slots := 0, locals := 66 }
set_option maxHeartbeats 4000000 in
set_option maxRecDepth 100000 in
theorem k_X5_year (l : Launch) (D : va_G) (K : Nat → ClassId) (q : Nat → Nat) (vweight : Nat → Int32) (vkind : Nat → Int32) (vrhymes : Nat → Int32) (vpurse : Nat → Int32) (vhas : Nat → Int32) (vwishes : Nat → Int32) (vwishMany : Int32) (vsightLeft : Nat → Int32) (vsightRight : Nat → Int32) (vsightHow : Nat → Int32) (vsights : Int32) (vpad : Nat → Int32) (vpadMany : Int32) (vact : Nat → Int32) (vwho : Nat → Int32) (vwhich : Nat → Int32) (vwhom : Nat → Int32) (vacts : Int32) (vplace : Int32) (vopenMany : Int32) (vended : Int32) (vspoken : Int32) (vheaviest : Int32) (vheaviestWeight : Int32) (vhad : Nat → Int32) (vbadAct : Int32) (vbadWhy : Int32) (vbrings : Nat → Int64) (vbringsThen : Nat → Int64) (vkept : Nat → Int32) (visKept : Nat → Int32) (vkeptAt : Int32) (visWriting : Int32) (p0 : Int32) (p1 : Int32) (p2 : Int32) (out : Int32 × (Nat → Int32) × (Nat → Int32) × (Nat → Int32) × Int32 × Int32 × Int32 × Int32 × Int32 × Int32 × (Nat → Int32)) (hf : f_X5_year vweight vkind vpurse vhas vplace vopenMany vended vspoken vheaviest vheaviestWeight vhad p0 p1 p2 = some out) : kI l D K .int yX5_year wsX5_year rmX5_year [.ref (q 0), .int p0, .int p1, .int p2] (mdW K q vweight vkind vrhymes vpurse vhas vwishes vwishMany vsightLeft vsightRight vsightHow vsights vpad vpadMany vact vwho vwhich vwhom vacts vplace vopenMany vended vspoken vheaviest vheaviestWeight vhad vbadAct vbadWhy vbrings vbringsThen vkept visKept vkeptAt visWriting) out.1 (mdW K q out.2.1 vkind vrhymes out.2.2.1 out.2.2.2.1 vwishes vwishMany vsightLeft vsightRight vsightHow vsights vpad vpadMany vact vwho vwhich vwhom vacts out.2.2.2.2.1 out.2.2.2.2.2.1 out.2.2.2.2.2.2.1 out.2.2.2.2.2.2.2.1 out.2.2.2.2.2.2.2.2.1 out.2.2.2.2.2.2.2.2.2.1 out.2.2.2.2.2.2.2.2.2.2 vbadAct vbadWhy vbrings vbringsThen vkept visKept vkeptAt visWriting) := by
  refine kI.of (cc := cX5_year) (maxL := 10) (by decide) rfl (Nat.le_of_ble_eq_true rfl) ?_
  intro p e s m args below meth c A H0 Q ls hx hb hml hown hts hK hN hA hP hD hS hl hret
  have hown : s.vm.findClass RX5 = some m.cls := hown
  have hl : lv_has ls 10 [(0, .ref (q 0)), (1, .int p0), (2, .int p1), (3, .int p2)] := hl
  generalize hH : H0 = H at hP ⊢
  have hS : va_S A H0 H [] := by rw [← hH]; exact hS
  clear hH
  unfold f_X5_year at hf
  refine lv_iload_n hx hb dX5_year_0 rfl (lv_at hl 1 rfl) ?_
  refine lv_i2l (v := p0.toInt64) hx hb dX5_year_1 rfl ?_
  refine lv_lconst (v := 0) hx hb dX5_year_2 (by decide) ?_
  refine lv_ldc2 hx hb hown (hts (.constantLong RX5 248 (9999)) (List.mem_of_getElem? (i := 1) rfl)) dX5_year_3 ?_
  obtain ⟨o1, ho1, hf⟩ := bd_el hf
  refine kc0_i (D := D) (va_runS (As := [.long p0.toInt64, .long 0, .long 9999]) (rest := []) ⟨hx, hb, hml, hown, hts⟩ ((k_X5_in l D K p0.toInt64 (0) (9999) o1 ho1) H.size) (va_cwS 3 hts gX5_year_X5_in rfl rfl rfl yd_X5_in ⟨Nat.le_of_ble_eq_true rfl, Nat.le_of_ble_eq_true rfl⟩) (kPreS va_P_nil (va_D_nil (A := fun _ => True)) hK hN) rfl rfl hl.1 rfl (lv_room (Nat.le_of_ble_eq_true rfl)) dX5_year_6 ⟨Nat.le_of_ble_eq_true rfl, Nat.le_of_ble_eq_true rfl⟩) hP hS hA (fun hzo1 H locs hP hS => ?_)
  refine lv_if_eq (tgt := 36) hx hb dX5_year_9 (by decide) (fun c2 => ?_) (fun c2 => ?_)
  · rw [if_pos c2] at hf
    refine lv_bipush (v := (-2)) hx hb dX5_year_36 (by decide) ?_
    obtain rfl := Option.some.inj hf
    exact hret rfl rfl rfl hP hD hS dX5_year_38
  · rw [if_neg c2] at hf
    refine lv_iload_n hx hb dX5_year_12 rfl (lv_at hl 2 rfl) ?_
    refine lv_i2l (v := p1.toInt64) hx hb dX5_year_13 rfl ?_
    refine lv_lconst (v := 1) hx hb dX5_year_14 (by decide) ?_
    refine lv_ldc2 hx hb hown (hts (.constantLong RX5 81 (99)) (List.mem_of_getElem? (i := 2) rfl)) dX5_year_15 ?_
    obtain ⟨o3, ho3, hf⟩ := bd_el hf
    refine kc0_i (D := D) (va_runS (As := [.long p1.toInt64, .long 1, .long 99]) (rest := []) ⟨hx, hb, hml, hown, hts⟩ ((k_X5_in l D K p1.toInt64 (1) (99) o3 ho3) H.size) (va_cwS 3 hts gX5_year_X5_in rfl rfl rfl yd_X5_in ⟨Nat.le_of_ble_eq_true rfl, Nat.le_of_ble_eq_true rfl⟩) (kPreS va_P_nil (va_D_nil (A := fun _ => True)) hK hN) rfl rfl hl.1 rfl (lv_room (Nat.le_of_ble_eq_true rfl)) dX5_year_18 ⟨Nat.le_of_ble_eq_true rfl, Nat.le_of_ble_eq_true rfl⟩) hP hS hA (fun hzo3 H locs hP hS => ?_)
    refine lv_if_eq (tgt := 36) hx hb dX5_year_21 (by decide) (fun c4 => ?_) (fun c4 => ?_)
    · rw [if_pos c4] at hf
      refine lv_bipush (v := (-2)) hx hb dX5_year_36 (by decide) ?_
      obtain rfl := Option.some.inj hf
      exact hret rfl rfl rfl hP hD hS dX5_year_38
    · rw [if_neg c4] at hf
      refine lv_iload_n hx hb dX5_year_24 rfl (lv_at hl 3 rfl) ?_
      refine lv_i2l (v := p2.toInt64) hx hb dX5_year_25 rfl ?_
      refine lv_lconst (v := 0) hx hb dX5_year_26 (by decide) ?_
      refine lv_ldc2 hx hb hown (hts (.constantLong RX5 83 (2)) (List.mem_of_getElem? (i := 3) rfl)) dX5_year_27 ?_
      obtain ⟨o5, ho5, hf⟩ := bd_el hf
      refine kc0_i (D := D) (va_runS (As := [.long p2.toInt64, .long 0, .long 2]) (rest := []) ⟨hx, hb, hml, hown, hts⟩ ((k_X5_in l D K p2.toInt64 (0) (2) o5 ho5) H.size) (va_cwS 3 hts gX5_year_X5_in rfl rfl rfl yd_X5_in ⟨Nat.le_of_ble_eq_true rfl, Nat.le_of_ble_eq_true rfl⟩) (kPreS va_P_nil (va_D_nil (A := fun _ => True)) hK hN) rfl rfl hl.1 rfl (lv_room (Nat.le_of_ble_eq_true rfl)) dX5_year_30 ⟨Nat.le_of_ble_eq_true rfl, Nat.le_of_ble_eq_true rfl⟩) hP hS hA (fun hzo5 H locs hP hS => ?_)
      refine lv_if_ne (tgt := 39) hx hb dX5_year_33 (by decide) (fun c6 => ?_) (fun c6 => ?_)
      · rw [if_neg c6] at hf
        refine lv_aload_n hx hb dX5_year_39 rfl (lv_at hl 0 rfl) ?_
        obtain ⟨o7, ho7, hf⟩ := ob_el hf
        refine kcw_v (D := D) (va_runV (As := []) (rest := []) ⟨hx, hb, hml, hown, hts⟩ ((k_X5_keepNow l D K q vweight vkind vrhymes vpurse vhas vwishes vwishMany vsightLeft vsightRight vsightHow vsights vpad vpadMany vact vwho vwhich vwhom vacts vplace vopenMany vended vspoken vheaviest vheaviestWeight vhad vbadAct vbadWhy vbrings vbringsThen vkept visKept vkeptAt visWriting o7 ho7) H.size) (cwV 0 hts gX5_year_X5_keepNow rfl rfl rfl ⟨rfl, yd_X5_keepNow⟩ ⟨Nat.le_of_ble_eq_true rfl, Nat.le_of_ble_eq_true rfl⟩) (kPreV (ci := 5) (q0 := 0) hP rfl rfl hP hD hK hN) rfl rfl hl.1 rfl (lv_room (Nat.le_of_ble_eq_true rfl)) dX5_year_40 ⟨Nat.le_of_ble_eq_true rfl, Nat.le_of_ble_eq_true rfl⟩) hD hS hA (fun H locs hP hD hS => ?_)
        have hP : va_P D vwCl (mdW K q vweight vkind vrhymes vpurse vhas vwishes vwishMany vsightLeft vsightRight vsightHow vsights vpad vpadMany vact vwho vwhich vwhom vacts vplace vopenMany vended vspoken vheaviest vheaviestWeight o7 vbadAct vbadWhy vbrings vbringsThen vkept visKept vkeptAt visWriting) H := hP
        have hD : va_D A (mdW K q vweight vkind vrhymes vpurse vhas vwishes vwishMany vsightLeft vsightRight vsightHow vsights vpad vpadMany vact vwho vwhich vwhom vacts vplace vopenMany vended vspoken vheaviest vheaviestWeight o7 vbadAct vbadWhy vbrings vbringsThen vkept visKept vkeptAt visWriting) := hD
        refine lv_aload_n hx hb dX5_year_43 rfl (lv_at hl 0 rfl) ?_
        obtain ⟨o8, ho8, hf⟩ := bd_el hf
        refine kcw_v (D := D) (va_runV (As := []) (rest := []) ⟨hx, hb, hml, hown, hts⟩ ((k_X5_beginCount l D K q vweight vkind vrhymes vpurse vhas vwishes vwishMany vsightLeft vsightRight vsightHow vsights vpad vpadMany vact vwho vwhich vwhom vacts vplace vopenMany vended vspoken vheaviest vheaviestWeight o7 vbadAct vbadWhy vbrings vbringsThen vkept visKept vkeptAt visWriting o8 ho8) H.size) (cwV 0 hts gX5_year_X5_beginCount rfl rfl rfl ⟨rfl, yd_X5_beginCount⟩ ⟨Nat.le_of_ble_eq_true rfl, Nat.le_of_ble_eq_true rfl⟩) (kPreV (ci := 5) (q0 := 0) hP rfl rfl hP hD hK hN) rfl rfl hl.1 rfl (lv_room (Nat.le_of_ble_eq_true rfl)) dX5_year_44 ⟨Nat.le_of_ble_eq_true rfl, Nat.le_of_ble_eq_true rfl⟩) hD hS hA (fun H locs hP hD hS => ?_)
        have hP : va_P D vwCl (mdW K q vweight vkind vrhymes vpurse vhas vwishes vwishMany vsightLeft vsightRight vsightHow vsights vpad vpadMany vact vwho vwhich vwhom vacts o8.1 o8.2.1 o8.2.2.1 o8.2.2.2.1 o8.2.2.2.2.1 o8.2.2.2.2.2 o7 vbadAct vbadWhy vbrings vbringsThen vkept visKept vkeptAt visWriting) H := hP
        have hD : va_D A (mdW K q vweight vkind vrhymes vpurse vhas vwishes vwishMany vsightLeft vsightRight vsightHow vsights vpad vpadMany vact vwho vwhich vwhom vacts o8.1 o8.2.1 o8.2.2.1 o8.2.2.2.1 o8.2.2.2.2.1 o8.2.2.2.2.2 o7 vbadAct vbadWhy vbrings vbringsThen vkept visKept vkeptAt visWriting) := hD
        refine lv_iload_n hx hb dX5_year_47 rfl (lv_at hl 1 rfl) ?_
        refine lv_istore (lv' := [(4, .int p0), (0, .ref (q 0)), (1, .int p0), (2, .int p1), (3, .int p2)]) hx hb dX5_year_48 hl (by decide) rfl (fun ls hl => ?_)
        refine lv_iconst (v := 0) hx hb dX5_year_50 (by decide) ?_
        refine lv_istore (lv' := [(5, .int 0), (4, .int p0), (0, .ref (q 0)), (1, .int p0), (2, .int p1), (3, .int p2)]) hx hb dX5_year_51 hl (by decide) rfl (fun ls hl => ?_)
        obtain ⟨r9, hr9, hf⟩ := ob_el hf
        have post53 : ∀ (e53_l4 : Int32) (e53_l5 : Int32) (e53_ended : Int32) (e53_has : Nat → Int32) (e53_heaviest : Int32) (e53_heaviestWeight : Int32) (e53_openMany : Int32) (e53_place : Int32) (e53_purse : Nat → Int32) (e53_spoken : Int32) (e53_weight : Nat → Int32) (H : Heap) (locs : List Loc) (ls : Array Slot), (ob (wh (s_X5_year_154 p2 e53_has e53_purse) 5000 (0, 0)) (fun r10 => if p2 = 1 then (ob (f_X5_costOf e53_weight (4095)) (fun o13 => ob (f_X5_back e53_weight e53_purse e53_has o7 o13) (fun o14 => some (o14.1, o14.2.1, o14.2.2.1, o14.2.2.2, e53_place, e53_openMany, e53_ended, e53_spoken, e53_heaviest, e53_heaviestWeight, o7)))) else (ob (f_X5_back e53_weight e53_purse e53_has o7 r10.1) (fun o12 => some (o12.1, o12.2.1, o12.2.2.1, o12.2.2.2, e53_place, e53_openMany, e53_ended, e53_spoken, e53_heaviest, e53_heaviestWeight, o7))))) = some out → va_P D vwCl (mdW K q e53_weight vkind vrhymes e53_purse e53_has vwishes vwishMany vsightLeft vsightRight vsightHow vsights vpad vpadMany vact vwho vwhich vwhom vacts e53_place e53_openMany e53_ended e53_spoken e53_heaviest e53_heaviestWeight o7 vbadAct vbadWhy vbrings vbringsThen vkept visKept vkeptAt visWriting) H → va_D A (mdW K q e53_weight vkind vrhymes e53_purse e53_has vwishes vwishMany vsightLeft vsightRight vsightHow vsights vpad vpadMany vact vwho vwhich vwhom vacts e53_place e53_openMany e53_ended e53_spoken e53_heaviest e53_heaviestWeight o7 vbadAct vbadWhy vbrings vbringsThen vkept visKept vkeptAt visWriting) → va_S A H0 H locs → lv_has ls 10 [(5, .int e53_l5), (4, .int e53_l4), (0, .ref (q 0)), (1, .int p0), (2, .int p1), (3, .int p2)] → W p l e rmX5_year s m args below meth c H locs 0 0 Q (F0 m 148 ls []) := by
          intro e53_l4 e53_l5 e53_ended e53_has e53_heaviest e53_heaviestWeight e53_openMany e53_place e53_purse e53_spoken e53_weight H locs ls hf hP hD hS hl
          refine lv_iconst (v := 0) hx hb dX5_year_148 (by decide) ?_
          refine lv_istore (lv' := [(5, .int 0), (4, .int e53_l4), (0, .ref (q 0)), (1, .int p0), (2, .int p1), (3, .int p2)]) hx hb dX5_year_149 hl (by decide) rfl (fun ls hl => ?_)
          refine lv_iconst (v := 0) hx hb dX5_year_151 (by decide) ?_
          refine lv_istore (lv' := [(6, .int 0), (5, .int 0), (4, .int e53_l4), (0, .ref (q 0)), (1, .int p0), (2, .int p1), (3, .int p2)]) hx hb dX5_year_152 hl (by decide) rfl (fun ls hl => ?_)
          obtain ⟨r10, hr10, hf⟩ := ob_el hf
          have post154 : ∀ (e154_l5 : Int32) (e154_l6 : Int32) (H : Heap) (locs : List Loc) (ls : Array Slot), (if p2 = 1 then (ob (f_X5_costOf e53_weight (4095)) (fun o13 => ob (f_X5_back e53_weight e53_purse e53_has o7 o13) (fun o14 => some (o14.1, o14.2.1, o14.2.2.1, o14.2.2.2, e53_place, e53_openMany, e53_ended, e53_spoken, e53_heaviest, e53_heaviestWeight, o7)))) else (ob (f_X5_back e53_weight e53_purse e53_has o7 e154_l5) (fun o12 => some (o12.1, o12.2.1, o12.2.2.1, o12.2.2.2, e53_place, e53_openMany, e53_ended, e53_spoken, e53_heaviest, e53_heaviestWeight, o7)))) = some out → va_P D vwCl (mdW K q e53_weight vkind vrhymes e53_purse e53_has vwishes vwishMany vsightLeft vsightRight vsightHow vsights vpad vpadMany vact vwho vwhich vwhom vacts e53_place e53_openMany e53_ended e53_spoken e53_heaviest e53_heaviestWeight o7 vbadAct vbadWhy vbrings vbringsThen vkept visKept vkeptAt visWriting) H → va_D A (mdW K q e53_weight vkind vrhymes e53_purse e53_has vwishes vwishMany vsightLeft vsightRight vsightHow vsights vpad vpadMany vact vwho vwhich vwhom vacts e53_place e53_openMany e53_ended e53_spoken e53_heaviest e53_heaviestWeight o7 vbadAct vbadWhy vbrings vbringsThen vkept visKept vkeptAt visWriting) → va_S A H0 H locs → lv_has ls 10 [(6, .int e154_l6), (5, .int e154_l5), (4, .int e53_l4), (0, .ref (q 0)), (1, .int p0), (2, .int p1), (3, .int p2)] → W p l e rmX5_year s m args below meth c H locs 0 0 Q (F0 m 204 ls []) := by
            intro e154_l5 e154_l6 H locs ls hf hP hD hS hl
            refine lv_iload_n hx hb dX5_year_204 rfl (lv_at hl 6 rfl) ?_
            refine lv_iconst (v := 1) hx hb dX5_year_205 (by decide) ?_
            refine lv_icmp_ne (tgt := 219) hx hb dX5_year_206 (by decide) (fun c11 => ?_) (fun c11 => ?_)
            · rw [if_neg c11] at hf
              refine lv_iload hx hb dX5_year_219 (lv_at hl 1 rfl) ?_
              refine lv_istore (lv' := [(6, .int e154_l5), (5, .int e154_l5), (4, .int e53_l4), (0, .ref (q 0)), (1, .int p0), (2, .int p1), (3, .int p2)]) hx hb dX5_year_221 hl (by decide) rfl (fun ls hl => ?_)
              refine lv_aload_n hx hb dX5_year_223 rfl (lv_at hl 3 rfl) ?_
              refine lv_iload hx hb dX5_year_224 (lv_at hl 0 rfl) ?_
              obtain ⟨o12, ho12, hf⟩ := ob_el hf
              refine kcw_i (D := D) (va_runV (As := [.int e154_l5]) (rest := []) ⟨hx, hb, hml, hown, hts⟩ ((k_X5_back l D K q e53_weight vkind vrhymes e53_purse e53_has vwishes vwishMany vsightLeft vsightRight vsightHow vsights vpad vpadMany vact vwho vwhich vwhom vacts e53_place e53_openMany e53_ended e53_spoken e53_heaviest e53_heaviestWeight o7 vbadAct vbadWhy vbrings vbringsThen vkept visKept vkeptAt visWriting e154_l5 o12 ho12) H.size) (cwV 1 hts gX5_year_X5_back rfl rfl rfl ⟨rfl, yd_X5_back⟩ ⟨Nat.le_of_ble_eq_true rfl, Nat.le_of_ble_eq_true rfl⟩) (kPreV (ci := 5) (q0 := 0) hP rfl rfl hP hD hK hN) rfl rfl hl.1 rfl (lv_room (Nat.le_of_ble_eq_true rfl)) dX5_year_226 ⟨Nat.le_of_ble_eq_true rfl, Nat.le_of_ble_eq_true rfl⟩) hD hS hA (fun hzo12 H locs hP hD hS => ?_)
              have hP : va_P D vwCl (mdW K q o12.2.1 vkind vrhymes o12.2.2.1 o12.2.2.2 vwishes vwishMany vsightLeft vsightRight vsightHow vsights vpad vpadMany vact vwho vwhich vwhom vacts e53_place e53_openMany e53_ended e53_spoken e53_heaviest e53_heaviestWeight o7 vbadAct vbadWhy vbrings vbringsThen vkept visKept vkeptAt visWriting) H := hP
              have hD : va_D A (mdW K q o12.2.1 vkind vrhymes o12.2.2.1 o12.2.2.2 vwishes vwishMany vsightLeft vsightRight vsightHow vsights vpad vpadMany vact vwho vwhich vwhom vacts e53_place e53_openMany e53_ended e53_spoken e53_heaviest e53_heaviestWeight o7 vbadAct vbadWhy vbrings vbringsThen vkept visKept vkeptAt visWriting) := hD
              obtain rfl := Option.some.inj hf
              exact hret rfl rfl rfl hP hD hS dX5_year_229
            · rw [if_pos c11] at hf
              refine lv_aload_n hx hb dX5_year_209 rfl (lv_at hl 3 rfl) ?_
              refine lv_sipush (v := 4095) hx hb dX5_year_210 (by decide) ?_
              obtain ⟨o13, ho13, hf⟩ := ob_el hf
              refine kcw_i (D := D) (va_runV (As := [.int 4095]) (rest := []) ⟨hx, hb, hml, hown, hts⟩ ((k_X5_costOf l D K q e53_weight vkind vrhymes e53_purse e53_has vwishes vwishMany vsightLeft vsightRight vsightHow vsights vpad vpadMany vact vwho vwhich vwhom vacts e53_place e53_openMany e53_ended e53_spoken e53_heaviest e53_heaviestWeight o7 vbadAct vbadWhy vbrings vbringsThen vkept visKept vkeptAt visWriting (4095) o13 ho13) H.size) (cwV 1 hts gX5_year_X5_costOf rfl rfl rfl ⟨rfl, yd_X5_costOf⟩ ⟨Nat.le_of_ble_eq_true rfl, Nat.le_of_ble_eq_true rfl⟩) (kPreV (ci := 5) (q0 := 0) hP rfl rfl hP hD hK hN) rfl rfl hl.1 rfl (lv_room (Nat.le_of_ble_eq_true rfl)) dX5_year_213 ⟨Nat.le_of_ble_eq_true rfl, Nat.le_of_ble_eq_true rfl⟩) hD hS hA (fun hzo13 H locs hP hD hS => ?_)
              have hP : va_P D vwCl (mdW K q e53_weight vkind vrhymes e53_purse e53_has vwishes vwishMany vsightLeft vsightRight vsightHow vsights vpad vpadMany vact vwho vwhich vwhom vacts e53_place e53_openMany e53_ended e53_spoken e53_heaviest e53_heaviestWeight o7 vbadAct vbadWhy vbrings vbringsThen vkept visKept vkeptAt visWriting) H := hP
              have hD : va_D A (mdW K q e53_weight vkind vrhymes e53_purse e53_has vwishes vwishMany vsightLeft vsightRight vsightHow vsights vpad vpadMany vact vwho vwhich vwhom vacts e53_place e53_openMany e53_ended e53_spoken e53_heaviest e53_heaviestWeight o7 vbadAct vbadWhy vbrings vbringsThen vkept visKept vkeptAt visWriting) := hD
              refine lv_goto (tgt := 221) hx hb dX5_year_216 (by decide) ?_
              refine lv_istore (lv' := [(6, .int o13), (5, .int e154_l5), (4, .int e53_l4), (0, .ref (q 0)), (1, .int p0), (2, .int p1), (3, .int p2)]) hx hb dX5_year_221 hl (by decide) rfl (fun ls hl => ?_)
              refine lv_aload_n hx hb dX5_year_223 rfl (lv_at hl 3 rfl) ?_
              refine lv_iload hx hb dX5_year_224 (lv_at hl 0 rfl) ?_
              obtain ⟨o14, ho14, hf⟩ := ob_el hf
              refine kcw_i (D := D) (va_runV (As := [.int o13]) (rest := []) ⟨hx, hb, hml, hown, hts⟩ ((k_X5_back l D K q e53_weight vkind vrhymes e53_purse e53_has vwishes vwishMany vsightLeft vsightRight vsightHow vsights vpad vpadMany vact vwho vwhich vwhom vacts e53_place e53_openMany e53_ended e53_spoken e53_heaviest e53_heaviestWeight o7 vbadAct vbadWhy vbrings vbringsThen vkept visKept vkeptAt visWriting o13 o14 ho14) H.size) (cwV 1 hts gX5_year_X5_back rfl rfl rfl ⟨rfl, yd_X5_back⟩ ⟨Nat.le_of_ble_eq_true rfl, Nat.le_of_ble_eq_true rfl⟩) (kPreV (ci := 5) (q0 := 0) hP rfl rfl hP hD hK hN) rfl rfl hl.1 rfl (lv_room (Nat.le_of_ble_eq_true rfl)) dX5_year_226 ⟨Nat.le_of_ble_eq_true rfl, Nat.le_of_ble_eq_true rfl⟩) hD hS hA (fun hzo14 H locs hP hD hS => ?_)
              have hP : va_P D vwCl (mdW K q o14.2.1 vkind vrhymes o14.2.2.1 o14.2.2.2 vwishes vwishMany vsightLeft vsightRight vsightHow vsights vpad vpadMany vact vwho vwhich vwhom vacts e53_place e53_openMany e53_ended e53_spoken e53_heaviest e53_heaviestWeight o7 vbadAct vbadWhy vbrings vbringsThen vkept visKept vkeptAt visWriting) H := hP
              have hD : va_D A (mdW K q o14.2.1 vkind vrhymes o14.2.2.1 o14.2.2.2 vwishes vwishMany vsightLeft vsightRight vsightHow vsights vpad vpadMany vact vwho vwhich vwhom vacts e53_place e53_openMany e53_ended e53_spoken e53_heaviest e53_heaviestWeight o7 vbadAct vbadWhy vbrings vbringsThen vkept visKept vkeptAt visWriting) := hD
              obtain rfl := Option.some.inj hf
              exact hret rfl rfl rfl hP hD hS dX5_year_229
          have lp154 : ∀ (fu : Nat) (x154_l5 : Int32) (x154_l6 : Int32) (H : Heap) (locs : List Loc) (ls : Array Slot), wh (s_X5_year_154 p2 e53_has e53_purse) fu (x154_l5, x154_l6) = some r10 → va_P D vwCl (mdW K q e53_weight vkind vrhymes e53_purse e53_has vwishes vwishMany vsightLeft vsightRight vsightHow vsights vpad vpadMany vact vwho vwhich vwhom vacts e53_place e53_openMany e53_ended e53_spoken e53_heaviest e53_heaviestWeight o7 vbadAct vbadWhy vbrings vbringsThen vkept visKept vkeptAt visWriting) H → va_D A (mdW K q e53_weight vkind vrhymes e53_purse e53_has vwishes vwishMany vsightLeft vsightRight vsightHow vsights vpad vpadMany vact vwho vwhich vwhom vacts e53_place e53_openMany e53_ended e53_spoken e53_heaviest e53_heaviestWeight o7 vbadAct vbadWhy vbrings vbringsThen vkept visKept vkeptAt visWriting) → va_S A H0 H locs → lv_has ls 10 [(6, .int x154_l6), (5, .int x154_l5), (4, .int e53_l4), (0, .ref (q 0)), (1, .int p0), (2, .int p1), (3, .int p2)] → W p l e rmX5_year s m args below meth c H locs 0 0 Q (F0 m 154 ls []) := by
            intro fu
            induction fu with
            | zero => intro x154_l5 x154_l6 H locs ls hw154; cases hw154
            | succ fu ih154 =>
              intro x154_l5 x154_l6 H locs ls hw154 hP hD hS hl
              obtain ⟨o154_, hs154, hw154⟩ := wh_el hw154
              unfold s_X5_year_154 at hs154
              dsimp only at hs154
              refine lv_iload hx hb dX5_year_154 (lv_at hl 0 rfl) ?_
              refine lv_iconst (v := 4) hx hb dX5_year_156 (by decide) ?_
              refine lv_icmp_ge (tgt := 204) hx hb dX5_year_157 (by decide) (fun c15 => ?_) (fun c15 => ?_)
              · rw [if_pos c15] at hs154
                obtain rfl := Option.some.inj hs154
                have e9 := Option.some.inj hw154
                rw [← e9] at hf
                exact post154 _ _ _ _ _ hf hP hD hS (lv_sub hl [0, 1, 2, 3, 4, 5, 6] rfl)
              · rw [if_neg c15] at hs154
                refine lv_iload hx hb dX5_year_160 (lv_at hl 1 rfl) ?_
                refine lv_iload_n hx hb dX5_year_162 rfl (lv_at hl 6 rfl) ?_
                refine lv_if_ne (tgt := 176) hx hb dX5_year_163 (by decide) (fun c16 => ?_) (fun c16 => ?_)
                · rw [if_neg c16] at hs154
                  refine lv_iload_n hx hb dX5_year_176 rfl (lv_at hl 6 rfl) ?_
                  refine lv_iconst (v := 2) hx hb dX5_year_177 (by decide) ?_
                  refine lv_icmp_ne (tgt := 194) hx hb dX5_year_178 (by decide) (fun c17 => ?_) (fun c17 => ?_)
                  · rw [if_neg c17] at hs154
                    refine lv_iconst (v := 0) hx hb dX5_year_194 (by decide) ?_
                    refine lv_iadd hx hb dX5_year_195 ?_
                    refine lv_istore (lv' := [(5, .int (x154_l5 + 0)), (6, .int x154_l6), (4, .int e53_l4), (0, .ref (q 0)), (1, .int p0), (2, .int p1), (3, .int p2)]) hx hb dX5_year_196 hl (by decide) rfl (fun ls hl => ?_)
                    refine lv_iinc (v := (x154_l6 + 1)) (lv' := [(6, .int (x154_l6 + 1)), (5, .int (x154_l5 + 0)), (4, .int e53_l4), (0, .ref (q 0)), (1, .int p0), (2, .int p1), (3, .int p2)]) hx hb dX5_year_198 hl (k := 1) rfl (by rfl) (by decide) rfl (fun ls hl => ?_)
                    refine lv_goto (tgt := 154) hx hb dX5_year_201 (by decide) ?_
                    obtain rfl := Option.some.inj hs154
                    exact ih154 _ _ _ _ _ hw154 hP hD hS (lv_sub hl [0, 1, 2, 3, 4, 5, 6] rfl)
                  · rw [if_pos c17] at hs154
                    refine lv_aload_n hx hb dX5_year_181 rfl (lv_at hl 3 rfl) ?_
                    refine va_get (D := D) (ci := 5) (v := .ref (q 5)) (C := RX5) (T := TX5) (N := 33) hx hb hts inX5_year_X5 hown hK hP 0 rfl rfl 4 (by decide) (hts (.fieldLink RX5 22 "WordScalesModel" "has" "[I") (List.mem_of_getElem? (i := 8) rfl)) (fun _ h9 => h9) rfl dX5_year_182 ?_
                    refine lv_iload hx hb dX5_year_185 (lv_at hl 0 rfl) ?_
                    obtain ⟨v18, hs154⟩ := chk_el hs154
                    refine va_iald (D := D) (f := e53_has) hx hb hK hP 5 0 rfl rfl v18 dX5_year_187 ?_
                    obtain ⟨o19, ho19, hs154⟩ := ob_el hs154
                    refine kc0_i (D := D) (va_runS (As := [.int (e53_has (x154_l6).toNatClampNeg)]) (rest := [.int x154_l5]) ⟨hx, hb, hml, hown, hts⟩ ((k_X5_ones l D K (e53_has (x154_l6).toNatClampNeg) o19 ho19) H.size) (va_cwS 1 hts gX5_year_X5_ones rfl rfl rfl yd_X5_ones ⟨Nat.le_of_ble_eq_true rfl, Nat.le_of_ble_eq_true rfl⟩) (kPreS va_P_nil (va_D_nil (A := fun _ => True)) hK hN) rfl rfl hl.1 rfl (lv_room (Nat.le_of_ble_eq_true rfl)) dX5_year_188 ⟨Nat.le_of_ble_eq_true rfl, Nat.le_of_ble_eq_true rfl⟩) hP hS hA (fun hzo19 H locs hP hS => ?_)
                    refine lv_goto (tgt := 195) hx hb dX5_year_191 (by decide) ?_
                    refine lv_iadd hx hb dX5_year_195 ?_
                    refine lv_istore (lv' := [(5, .int (x154_l5 + o19)), (6, .int x154_l6), (4, .int e53_l4), (0, .ref (q 0)), (1, .int p0), (2, .int p1), (3, .int p2)]) hx hb dX5_year_196 hl (by decide) rfl (fun ls hl => ?_)
                    refine lv_iinc (v := (x154_l6 + 1)) (lv' := [(6, .int (x154_l6 + 1)), (5, .int (x154_l5 + o19)), (4, .int e53_l4), (0, .ref (q 0)), (1, .int p0), (2, .int p1), (3, .int p2)]) hx hb dX5_year_198 hl (k := 1) rfl (by rfl) (by decide) rfl (fun ls hl => ?_)
                    refine lv_goto (tgt := 154) hx hb dX5_year_201 (by decide) ?_
                    obtain rfl := Option.some.inj hs154
                    exact ih154 _ _ _ _ _ hw154 hP hD hS (lv_sub hl [0, 1, 2, 3, 4, 5, 6] rfl)
                · rw [if_pos c16] at hs154
                  refine lv_aload_n hx hb dX5_year_166 rfl (lv_at hl 3 rfl) ?_
                  refine va_get (D := D) (ci := 5) (v := .ref (q 4)) (C := RX5) (T := TX5) (N := 33) hx hb hts inX5_year_X5 hown hK hP 0 rfl rfl 3 (by decide) (hts (.fieldLink RX5 19 "WordScalesModel" "purse" "[I") (List.mem_of_getElem? (i := 7) rfl)) (fun _ h9 => h9) rfl dX5_year_167 ?_
                  refine lv_iload hx hb dX5_year_170 (lv_at hl 0 rfl) ?_
                  obtain ⟨v20, hs154⟩ := chk_el hs154
                  refine va_iald (D := D) (f := e53_purse) hx hb hK hP 4 0 rfl rfl v20 dX5_year_172 ?_
                  refine lv_goto (tgt := 195) hx hb dX5_year_173 (by decide) ?_
                  refine lv_iadd hx hb dX5_year_195 ?_
                  refine lv_istore (lv' := [(5, .int (x154_l5 + (e53_purse (x154_l6).toNatClampNeg))), (6, .int x154_l6), (4, .int e53_l4), (0, .ref (q 0)), (1, .int p0), (2, .int p1), (3, .int p2)]) hx hb dX5_year_196 hl (by decide) rfl (fun ls hl => ?_)
                  refine lv_iinc (v := (x154_l6 + 1)) (lv' := [(6, .int (x154_l6 + 1)), (5, .int (x154_l5 + (e53_purse (x154_l6).toNatClampNeg))), (4, .int e53_l4), (0, .ref (q 0)), (1, .int p0), (2, .int p1), (3, .int p2)]) hx hb dX5_year_198 hl (k := 1) rfl (by rfl) (by decide) rfl (fun ls hl => ?_)
                  refine lv_goto (tgt := 154) hx hb dX5_year_201 (by decide) ?_
                  obtain rfl := Option.some.inj hs154
                  exact ih154 _ _ _ _ _ hw154 hP hD hS (lv_sub hl [0, 1, 2, 3, 4, 5, 6] rfl)
          exact lp154 5000 _ _ _ _ _ hr10 hP hD hS (lv_sub hl [0, 1, 2, 3, 4, 5, 6] rfl)
        have lp53 : ∀ (fu : Nat) (x53_l4 : Int32) (x53_l5 : Int32) (x53_ended : Int32) (x53_has : Nat → Int32) (x53_heaviest : Int32) (x53_heaviestWeight : Int32) (x53_openMany : Int32) (x53_place : Int32) (x53_purse : Nat → Int32) (x53_spoken : Int32) (x53_weight : Nat → Int32) (H : Heap) (locs : List Loc) (ls : Array Slot), wh (s_X5_year_53 vkind p1) fu (x53_l4, x53_l5, x53_ended, x53_has, x53_heaviest, x53_heaviestWeight, x53_openMany, x53_place, x53_purse, x53_spoken, x53_weight) = some r9 → va_P D vwCl (mdW K q x53_weight vkind vrhymes x53_purse x53_has vwishes vwishMany vsightLeft vsightRight vsightHow vsights vpad vpadMany vact vwho vwhich vwhom vacts x53_place x53_openMany x53_ended x53_spoken x53_heaviest x53_heaviestWeight o7 vbadAct vbadWhy vbrings vbringsThen vkept visKept vkeptAt visWriting) H → va_D A (mdW K q x53_weight vkind vrhymes x53_purse x53_has vwishes vwishMany vsightLeft vsightRight vsightHow vsights vpad vpadMany vact vwho vwhich vwhom vacts x53_place x53_openMany x53_ended x53_spoken x53_heaviest x53_heaviestWeight o7 vbadAct vbadWhy vbrings vbringsThen vkept visKept vkeptAt visWriting) → va_S A H0 H locs → lv_has ls 10 [(5, .int x53_l5), (4, .int x53_l4), (0, .ref (q 0)), (1, .int p0), (2, .int p1), (3, .int p2)] → W p l e rmX5_year s m args below meth c H locs 0 0 Q (F0 m 53 ls []) := by
          intro fu
          induction fu with
          | zero => intro x53_l4 x53_l5 x53_ended x53_has x53_heaviest x53_heaviestWeight x53_openMany x53_place x53_purse x53_spoken x53_weight H locs ls hw53; cases hw53
          | succ fu ih53 =>
            intro x53_l4 x53_l5 x53_ended x53_has x53_heaviest x53_heaviestWeight x53_openMany x53_place x53_purse x53_spoken x53_weight H locs ls hw53 hP hD hS hl
            obtain ⟨o53_, hs53, hw53⟩ := wh_el hw53
            unfold s_X5_year_53 at hs53
            dsimp only at hs53
            refine lv_iload hx hb dX5_year_53 (lv_at hl 0 rfl) ?_
            refine lv_iload_n hx hb dX5_year_55 rfl (lv_at hl 4 rfl) ?_
            refine lv_icmp_ge (tgt := 148) hx hb dX5_year_56 (by decide) (fun c21 => ?_) (fun c21 => ?_)
            · rw [if_pos c21] at hs53
              obtain rfl := Option.some.inj hs53
              have e9 := Option.some.inj hw53
              rw [← e9] at hf
              exact post53 _ _ _ _ _ _ _ _ _ _ _ _ _ _ hf hP hD hS (lv_sub hl [0, 1, 2, 3, 4, 5] rfl)
            · rw [if_neg c21] at hs53
              refine lv_ldc2 hx hb hown (hts (.constantLong RX5 250 (75)) (List.mem_of_getElem? (i := 4) rfl)) dX5_year_59 ?_
              refine lv_iload hx hb dX5_year_62 (lv_at hl 1 rfl) ?_
              refine lv_i2l (v := x53_l4.toInt64) hx hb dX5_year_64 rfl ?_
              refine lv_lmul hx hb dX5_year_65 ?_
              refine lv_ldc2 hx hb hown (hts (.constantLong RX5 252 (74)) (List.mem_of_getElem? (i := 5) rfl)) dX5_year_66 ?_
              refine lv_ladd hx hb dX5_year_69 ?_
              refine lv_ldc2 hx hb hown (hts (.constantLong RX5 254 (65537)) (List.mem_of_getElem? (i := 6) rfl)) dX5_year_70 ?_
              refine lv_lrem hx hb dX5_year_73 (by decide) ?_
              refine lv_l2i (v := (((75 * x53_l4.toInt64) + 74) - ((75 * x53_l4.toInt64) + 74) / 65537 * 65537).toInt32) hx hb dX5_year_74 rfl ?_
              refine lv_istore (lv' := [(4, .int ((((75 * x53_l4.toInt64) + 74) - ((75 * x53_l4.toInt64) + 74) / 65537 * 65537).toInt32)), (5, .int x53_l5), (0, .ref (q 0)), (1, .int p0), (2, .int p1), (3, .int p2)]) hx hb dX5_year_75 hl (by decide) rfl (fun ls hl => ?_)
              refine lv_iload hx hb dX5_year_77 (lv_at hl 0 rfl) ?_
              refine lv_bipush (v := 48) hx hb dX5_year_79 (by decide) ?_
              refine lv_idiv hx hb dX5_year_81 (by decide) ?_
              refine lv_bipush (v := 6) hx hb dX5_year_82 (by decide) ?_
              refine lv_irem hx hb dX5_year_84 (by decide) ?_
              obtain ⟨o22, ho22, hs53⟩ := bd_el hs53
              refine kc0_i (D := D) (va_runS (As := [.int (((((75 * x53_l4.toInt64) + 74) - ((75 * x53_l4.toInt64) + 74) / 65537 * 65537).toInt32 / 48) - ((((75 * x53_l4.toInt64) + 74) - ((75 * x53_l4.toInt64) + 74) / 65537 * 65537).toInt32 / 48) / 6 * 6)]) (rest := []) ⟨hx, hb, hml, hown, hts⟩ ((k_X5_actBy l D K (((((75 * x53_l4.toInt64) + 74) - ((75 * x53_l4.toInt64) + 74) / 65537 * 65537).toInt32 / 48) - ((((75 * x53_l4.toInt64) + 74) - ((75 * x53_l4.toInt64) + 74) / 65537 * 65537).toInt32 / 48) / 6 * 6) o22 ho22) H.size) (va_cwS 1 hts gX5_year_X5_actBy rfl rfl rfl yd_X5_actBy ⟨Nat.le_of_ble_eq_true rfl, Nat.le_of_ble_eq_true rfl⟩) (kPreS va_P_nil (va_D_nil (A := fun _ => True)) hK hN) rfl rfl hl.1 rfl (lv_room (Nat.le_of_ble_eq_true rfl)) dX5_year_85 ⟨Nat.le_of_ble_eq_true rfl, Nat.le_of_ble_eq_true rfl⟩) hP hS hA (fun hzo22 H locs hP hS => ?_)
              refine lv_istore (lv' := [(6, .int o22), (4, .int ((((75 * x53_l4.toInt64) + 74) - ((75 * x53_l4.toInt64) + 74) / 65537 * 65537).toInt32)), (5, .int x53_l5), (0, .ref (q 0)), (1, .int p0), (2, .int p1), (3, .int p2)]) hx hb dX5_year_88 hl (by decide) rfl (fun ls hl => ?_)
              refine lv_iload hx hb dX5_year_90 (lv_at hl 1 rfl) ?_
              refine lv_iconst (v := 4) hx hb dX5_year_92 (by decide) ?_
              refine lv_irem hx hb dX5_year_93 (by decide) ?_
              refine lv_istore (lv' := [(7, .int ((((75 * x53_l4.toInt64) + 74) - ((75 * x53_l4.toInt64) + 74) / 65537 * 65537).toInt32 - (((75 * x53_l4.toInt64) + 74) - ((75 * x53_l4.toInt64) + 74) / 65537 * 65537).toInt32 / 4 * 4)), (6, .int o22), (4, .int ((((75 * x53_l4.toInt64) + 74) - ((75 * x53_l4.toInt64) + 74) / 65537 * 65537).toInt32)), (5, .int x53_l5), (0, .ref (q 0)), (1, .int p0), (2, .int p1), (3, .int p2)]) hx hb dX5_year_94 hl (by decide) rfl (fun ls hl => ?_)
              refine lv_iload hx hb dX5_year_96 (lv_at hl 2 rfl) ?_
              refine lv_iconst (v := 4) hx hb dX5_year_98 (by decide) ?_
              refine lv_idiv hx hb dX5_year_99 (by decide) ?_
              refine lv_bipush (v := 12) hx hb dX5_year_100 (by decide) ?_
              refine lv_irem hx hb dX5_year_102 (by decide) ?_
              refine lv_istore (lv' := [(8, .int (((((75 * x53_l4.toInt64) + 74) - ((75 * x53_l4.toInt64) + 74) / 65537 * 65537).toInt32 / 4) - ((((75 * x53_l4.toInt64) + 74) - ((75 * x53_l4.toInt64) + 74) / 65537 * 65537).toInt32 / 4) / 12 * 12)), (7, .int ((((75 * x53_l4.toInt64) + 74) - ((75 * x53_l4.toInt64) + 74) / 65537 * 65537).toInt32 - (((75 * x53_l4.toInt64) + 74) - ((75 * x53_l4.toInt64) + 74) / 65537 * 65537).toInt32 / 4 * 4)), (6, .int o22), (4, .int ((((75 * x53_l4.toInt64) + 74) - ((75 * x53_l4.toInt64) + 74) / 65537 * 65537).toInt32)), (5, .int x53_l5), (0, .ref (q 0)), (1, .int p0), (2, .int p1), (3, .int p2)]) hx hb dX5_year_103 hl (by decide) rfl (fun ls hl => ?_)
              refine lv_iload hx hb dX5_year_105 (lv_at hl 3 rfl) ?_
              refine lv_sipush (v := 288) hx hb dX5_year_107 (by decide) ?_
              refine lv_idiv hx hb dX5_year_110 (by decide) ?_
              refine lv_iconst (v := 4) hx hb dX5_year_111 (by decide) ?_
              refine lv_irem hx hb dX5_year_112 (by decide) ?_
              refine lv_istore (lv' := [(9, .int (((((75 * x53_l4.toInt64) + 74) - ((75 * x53_l4.toInt64) + 74) / 65537 * 65537).toInt32 / 288) - ((((75 * x53_l4.toInt64) + 74) - ((75 * x53_l4.toInt64) + 74) / 65537 * 65537).toInt32 / 288) / 4 * 4)), (8, .int (((((75 * x53_l4.toInt64) + 74) - ((75 * x53_l4.toInt64) + 74) / 65537 * 65537).toInt32 / 4) - ((((75 * x53_l4.toInt64) + 74) - ((75 * x53_l4.toInt64) + 74) / 65537 * 65537).toInt32 / 4) / 12 * 12)), (7, .int ((((75 * x53_l4.toInt64) + 74) - ((75 * x53_l4.toInt64) + 74) / 65537 * 65537).toInt32 - (((75 * x53_l4.toInt64) + 74) - ((75 * x53_l4.toInt64) + 74) / 65537 * 65537).toInt32 / 4 * 4)), (6, .int o22), (4, .int ((((75 * x53_l4.toInt64) + 74) - ((75 * x53_l4.toInt64) + 74) / 65537 * 65537).toInt32)), (5, .int x53_l5), (0, .ref (q 0)), (1, .int p0), (2, .int p1), (3, .int p2)]) hx hb dX5_year_113 hl (by decide) rfl (fun ls hl => ?_)
              refine lv_aload_n hx hb dX5_year_115 rfl (lv_at hl 6 rfl) ?_
              refine lv_iload hx hb dX5_year_116 (lv_at hl 3 rfl) ?_
              refine lv_iload hx hb dX5_year_118 (lv_at hl 2 rfl) ?_
              refine lv_iload hx hb dX5_year_120 (lv_at hl 1 rfl) ?_
              refine lv_iload hx hb dX5_year_122 (lv_at hl 0 rfl) ?_
              obtain ⟨o23, ho23, hs53⟩ := ob_el hs53
              refine kcw_i (D := D) (va_runV (As := [.int o22, .int ((((75 * x53_l4.toInt64) + 74) - ((75 * x53_l4.toInt64) + 74) / 65537 * 65537).toInt32 - (((75 * x53_l4.toInt64) + 74) - ((75 * x53_l4.toInt64) + 74) / 65537 * 65537).toInt32 / 4 * 4), .int (((((75 * x53_l4.toInt64) + 74) - ((75 * x53_l4.toInt64) + 74) / 65537 * 65537).toInt32 / 4) - ((((75 * x53_l4.toInt64) + 74) - ((75 * x53_l4.toInt64) + 74) / 65537 * 65537).toInt32 / 4) / 12 * 12), .int (((((75 * x53_l4.toInt64) + 74) - ((75 * x53_l4.toInt64) + 74) / 65537 * 65537).toInt32 / 288) - ((((75 * x53_l4.toInt64) + 74) - ((75 * x53_l4.toInt64) + 74) / 65537 * 65537).toInt32 / 288) / 4 * 4)]) (rest := []) ⟨hx, hb, hml, hown, hts⟩ ((k_X5_whyNot l D K q x53_weight vkind vrhymes x53_purse x53_has vwishes vwishMany vsightLeft vsightRight vsightHow vsights vpad vpadMany vact vwho vwhich vwhom vacts x53_place x53_openMany x53_ended x53_spoken x53_heaviest x53_heaviestWeight o7 vbadAct vbadWhy vbrings vbringsThen vkept visKept vkeptAt visWriting o22 ((((75 * x53_l4.toInt64) + 74) - ((75 * x53_l4.toInt64) + 74) / 65537 * 65537).toInt32 - (((75 * x53_l4.toInt64) + 74) - ((75 * x53_l4.toInt64) + 74) / 65537 * 65537).toInt32 / 4 * 4) (((((75 * x53_l4.toInt64) + 74) - ((75 * x53_l4.toInt64) + 74) / 65537 * 65537).toInt32 / 4) - ((((75 * x53_l4.toInt64) + 74) - ((75 * x53_l4.toInt64) + 74) / 65537 * 65537).toInt32 / 4) / 12 * 12) (((((75 * x53_l4.toInt64) + 74) - ((75 * x53_l4.toInt64) + 74) / 65537 * 65537).toInt32 / 288) - ((((75 * x53_l4.toInt64) + 74) - ((75 * x53_l4.toInt64) + 74) / 65537 * 65537).toInt32 / 288) / 4 * 4) o23 ho23) H.size) (cwV 4 hts gX5_year_X5_whyNot rfl rfl rfl ⟨rfl, yd_X5_whyNot⟩ ⟨Nat.le_of_ble_eq_true rfl, Nat.le_of_ble_eq_true rfl⟩) (kPreV (ci := 5) (q0 := 0) hP rfl rfl hP hD hK hN) rfl rfl hl.1 rfl (lv_room (Nat.le_of_ble_eq_true rfl)) dX5_year_124 ⟨Nat.le_of_ble_eq_true rfl, Nat.le_of_ble_eq_true rfl⟩) hD hS hA (fun hzo23 H locs hP hD hS => ?_)
              have hP : va_P D vwCl (mdW K q x53_weight vkind vrhymes x53_purse x53_has vwishes vwishMany vsightLeft vsightRight vsightHow vsights vpad vpadMany vact vwho vwhich vwhom vacts x53_place x53_openMany x53_ended x53_spoken x53_heaviest x53_heaviestWeight o7 vbadAct vbadWhy vbrings vbringsThen vkept visKept vkeptAt visWriting) H := hP
              have hD : va_D A (mdW K q x53_weight vkind vrhymes x53_purse x53_has vwishes vwishMany vsightLeft vsightRight vsightHow vsights vpad vpadMany vact vwho vwhich vwhom vacts x53_place x53_openMany x53_ended x53_spoken x53_heaviest x53_heaviestWeight o7 vbadAct vbadWhy vbrings vbringsThen vkept visKept vkeptAt visWriting) := hD
              refine lv_if_ne (tgt := 142) hx hb dX5_year_127 (by decide) (fun c24 => ?_) (fun c24 => ?_)
              · rw [if_neg c24] at hs53
                refine lv_iinc (v := (x53_l5 + 1)) (lv' := [(5, .int (x53_l5 + 1)), (9, .int (((((75 * x53_l4.toInt64) + 74) - ((75 * x53_l4.toInt64) + 74) / 65537 * 65537).toInt32 / 288) - ((((75 * x53_l4.toInt64) + 74) - ((75 * x53_l4.toInt64) + 74) / 65537 * 65537).toInt32 / 288) / 4 * 4)), (8, .int (((((75 * x53_l4.toInt64) + 74) - ((75 * x53_l4.toInt64) + 74) / 65537 * 65537).toInt32 / 4) - ((((75 * x53_l4.toInt64) + 74) - ((75 * x53_l4.toInt64) + 74) / 65537 * 65537).toInt32 / 4) / 12 * 12)), (7, .int ((((75 * x53_l4.toInt64) + 74) - ((75 * x53_l4.toInt64) + 74) / 65537 * 65537).toInt32 - (((75 * x53_l4.toInt64) + 74) - ((75 * x53_l4.toInt64) + 74) / 65537 * 65537).toInt32 / 4 * 4)), (6, .int o22), (4, .int ((((75 * x53_l4.toInt64) + 74) - ((75 * x53_l4.toInt64) + 74) / 65537 * 65537).toInt32)), (0, .ref (q 0)), (1, .int p0), (2, .int p1), (3, .int p2)]) hx hb dX5_year_142 hl (k := 5) rfl (by rfl) (by decide) rfl (fun ls hl => ?_)
                refine lv_goto (tgt := 53) hx hb dX5_year_145 (by decide) ?_
                obtain rfl := Option.some.inj hs53
                exact ih53 _ _ _ _ _ _ _ _ _ _ _ _ _ _ hw53 hP hD hS (lv_sub hl [0, 5, 6, 7, 8, 9] rfl)
              · rw [if_pos c24] at hs53
                refine lv_aload_n hx hb dX5_year_130 rfl (lv_at hl 6 rfl) ?_
                refine lv_iload hx hb dX5_year_131 (lv_at hl 3 rfl) ?_
                refine lv_iload hx hb dX5_year_133 (lv_at hl 2 rfl) ?_
                refine lv_iload hx hb dX5_year_135 (lv_at hl 1 rfl) ?_
                refine lv_iload hx hb dX5_year_137 (lv_at hl 0 rfl) ?_
                obtain ⟨o25, ho25, hs53⟩ := ob_el hs53
                refine kcw_v (D := D) (va_runV (As := [.int o22, .int ((((75 * x53_l4.toInt64) + 74) - ((75 * x53_l4.toInt64) + 74) / 65537 * 65537).toInt32 - (((75 * x53_l4.toInt64) + 74) - ((75 * x53_l4.toInt64) + 74) / 65537 * 65537).toInt32 / 4 * 4), .int (((((75 * x53_l4.toInt64) + 74) - ((75 * x53_l4.toInt64) + 74) / 65537 * 65537).toInt32 / 4) - ((((75 * x53_l4.toInt64) + 74) - ((75 * x53_l4.toInt64) + 74) / 65537 * 65537).toInt32 / 4) / 12 * 12), .int (((((75 * x53_l4.toInt64) + 74) - ((75 * x53_l4.toInt64) + 74) / 65537 * 65537).toInt32 / 288) - ((((75 * x53_l4.toInt64) + 74) - ((75 * x53_l4.toInt64) + 74) / 65537 * 65537).toInt32 / 288) / 4 * 4)]) (rest := []) ⟨hx, hb, hml, hown, hts⟩ ((k_X5_happen l D K q x53_weight vkind vrhymes x53_purse x53_has vwishes vwishMany vsightLeft vsightRight vsightHow vsights vpad vpadMany vact vwho vwhich vwhom vacts x53_place x53_openMany x53_ended x53_spoken x53_heaviest x53_heaviestWeight o7 vbadAct vbadWhy vbrings vbringsThen vkept visKept vkeptAt visWriting o22 ((((75 * x53_l4.toInt64) + 74) - ((75 * x53_l4.toInt64) + 74) / 65537 * 65537).toInt32 - (((75 * x53_l4.toInt64) + 74) - ((75 * x53_l4.toInt64) + 74) / 65537 * 65537).toInt32 / 4 * 4) (((((75 * x53_l4.toInt64) + 74) - ((75 * x53_l4.toInt64) + 74) / 65537 * 65537).toInt32 / 4) - ((((75 * x53_l4.toInt64) + 74) - ((75 * x53_l4.toInt64) + 74) / 65537 * 65537).toInt32 / 4) / 12 * 12) (((((75 * x53_l4.toInt64) + 74) - ((75 * x53_l4.toInt64) + 74) / 65537 * 65537).toInt32 / 288) - ((((75 * x53_l4.toInt64) + 74) - ((75 * x53_l4.toInt64) + 74) / 65537 * 65537).toInt32 / 288) / 4 * 4) o25 ho25) H.size) (cwV 4 hts gX5_year_X5_happen rfl rfl rfl ⟨rfl, yd_X5_happen⟩ ⟨Nat.le_of_ble_eq_true rfl, Nat.le_of_ble_eq_true rfl⟩) (kPreV (ci := 5) (q0 := 0) hP rfl rfl hP hD hK hN) rfl rfl hl.1 rfl (lv_room (Nat.le_of_ble_eq_true rfl)) dX5_year_139 ⟨Nat.le_of_ble_eq_true rfl, Nat.le_of_ble_eq_true rfl⟩) hD hS hA (fun H locs hP hD hS => ?_)
                have hP : va_P D vwCl (mdW K q o25.1 vkind vrhymes o25.2.1 o25.2.2.1 vwishes vwishMany vsightLeft vsightRight vsightHow vsights vpad vpadMany vact vwho vwhich vwhom vacts o25.2.2.2.1 o25.2.2.2.2.1 o25.2.2.2.2.2.1 o25.2.2.2.2.2.2.1 o25.2.2.2.2.2.2.2.1 o25.2.2.2.2.2.2.2.2 o7 vbadAct vbadWhy vbrings vbringsThen vkept visKept vkeptAt visWriting) H := hP
                have hD : va_D A (mdW K q o25.1 vkind vrhymes o25.2.1 o25.2.2.1 vwishes vwishMany vsightLeft vsightRight vsightHow vsights vpad vpadMany vact vwho vwhich vwhom vacts o25.2.2.2.1 o25.2.2.2.2.1 o25.2.2.2.2.2.1 o25.2.2.2.2.2.2.1 o25.2.2.2.2.2.2.2.1 o25.2.2.2.2.2.2.2.2 o7 vbadAct vbadWhy vbrings vbringsThen vkept visKept vkeptAt visWriting) := hD
                refine lv_iinc (v := (x53_l5 + 1)) (lv' := [(5, .int (x53_l5 + 1)), (9, .int (((((75 * x53_l4.toInt64) + 74) - ((75 * x53_l4.toInt64) + 74) / 65537 * 65537).toInt32 / 288) - ((((75 * x53_l4.toInt64) + 74) - ((75 * x53_l4.toInt64) + 74) / 65537 * 65537).toInt32 / 288) / 4 * 4)), (8, .int (((((75 * x53_l4.toInt64) + 74) - ((75 * x53_l4.toInt64) + 74) / 65537 * 65537).toInt32 / 4) - ((((75 * x53_l4.toInt64) + 74) - ((75 * x53_l4.toInt64) + 74) / 65537 * 65537).toInt32 / 4) / 12 * 12)), (7, .int ((((75 * x53_l4.toInt64) + 74) - ((75 * x53_l4.toInt64) + 74) / 65537 * 65537).toInt32 - (((75 * x53_l4.toInt64) + 74) - ((75 * x53_l4.toInt64) + 74) / 65537 * 65537).toInt32 / 4 * 4)), (6, .int o22), (4, .int ((((75 * x53_l4.toInt64) + 74) - ((75 * x53_l4.toInt64) + 74) / 65537 * 65537).toInt32)), (0, .ref (q 0)), (1, .int p0), (2, .int p1), (3, .int p2)]) hx hb dX5_year_142 hl (k := 5) rfl (by rfl) (by decide) rfl (fun ls hl => ?_)
                refine lv_goto (tgt := 53) hx hb dX5_year_145 (by decide) ?_
                obtain rfl := Option.some.inj hs53
                exact ih53 _ _ _ _ _ _ _ _ _ _ _ _ _ _ hw53 hP hD hS (lv_sub hl [0, 5, 6, 7, 8, 9] rfl)
        exact lp53 5000 _ _ _ _ _ _ _ _ _ _ _ _ _ _ hr9 hP hD hS (lv_sub hl [0, 1, 2, 3, 4, 5] rfl)
      · rw [if_pos c6] at hf
        refine lv_bipush (v := (-2)) hx hb dX5_year_36 (by decide) ?_
        obtain rfl := Option.some.inj hf
        exact hret rfl rfl rfl hP hD hS dX5_year_38
def f_X5_pass (vkept : Nat → Int32) (vkeptAt : Int32) (visWriting : Int32) (p0 : Int32) : Option (Int32 × (Nat → Int32) × Int32) := if visWriting = 0 then (chk vkeptAt 180 (some ((vkept (vkeptAt).toNatClampNeg), (upd vkept (vkeptAt).toNatClampNeg (vkept (vkeptAt).toNatClampNeg)), (vkeptAt + 1)))) else (chk vkeptAt 180 (some (p0, (upd vkept (vkeptAt).toNatClampNeg p0), (vkeptAt + 1))))
theorem inX5_pass_X5 : ∀ w ∈ wsX50, w ∈ wsX5_pass := fun w h => List.mem_cons_of_mem _ (List.mem_append_right _ h)
theorem yd_X5_pass : yX5_pass.cls ≠ "java/lang/invoke/MethodHandle" ∧ yX5_pass.cls ≠ "java/lang/invoke/VarHandle" ∧ (parseMethodDescriptor yX5_pass.desc).map (fun d => d.parameters.length) = some 1 := by decide +kernel
abbrev rmX5_pass : Room := { frames := 0, cells := 0, slots := 0, locals := 0 }
set_option maxHeartbeats 4000000 in
set_option maxRecDepth 100000 in
theorem k_X5_pass (l : Launch) (D : va_G) (K : Nat → ClassId) (q : Nat → Nat) (vweight : Nat → Int32) (vkind : Nat → Int32) (vrhymes : Nat → Int32) (vpurse : Nat → Int32) (vhas : Nat → Int32) (vwishes : Nat → Int32) (vwishMany : Int32) (vsightLeft : Nat → Int32) (vsightRight : Nat → Int32) (vsightHow : Nat → Int32) (vsights : Int32) (vpad : Nat → Int32) (vpadMany : Int32) (vact : Nat → Int32) (vwho : Nat → Int32) (vwhich : Nat → Int32) (vwhom : Nat → Int32) (vacts : Int32) (vplace : Int32) (vopenMany : Int32) (vended : Int32) (vspoken : Int32) (vheaviest : Int32) (vheaviestWeight : Int32) (vhad : Nat → Int32) (vbadAct : Int32) (vbadWhy : Int32) (vbrings : Nat → Int64) (vbringsThen : Nat → Int64) (vkept : Nat → Int32) (visKept : Nat → Int32) (vkeptAt : Int32) (visWriting : Int32) (p0 : Int32) (out : Int32 × (Nat → Int32) × Int32) (hf : f_X5_pass vkept vkeptAt visWriting p0 = some out) : kI l D K .int yX5_pass wsX5_pass rmX5_pass [.ref (q 0), .int p0] (mdW K q vweight vkind vrhymes vpurse vhas vwishes vwishMany vsightLeft vsightRight vsightHow vsights vpad vpadMany vact vwho vwhich vwhom vacts vplace vopenMany vended vspoken vheaviest vheaviestWeight vhad vbadAct vbadWhy vbrings vbringsThen vkept visKept vkeptAt visWriting) out.1 (mdW K q vweight vkind vrhymes vpurse vhas vwishes vwishMany vsightLeft vsightRight vsightHow vsights vpad vpadMany vact vwho vwhich vwhom vacts vplace vopenMany vended vspoken vheaviest vheaviestWeight vhad vbadAct vbadWhy vbrings vbringsThen out.2.1 visKept out.2.2 visWriting) := by
  refine kI.of (cc := cX5_pass) (maxL := 3) (by decide) rfl (Nat.le_of_ble_eq_true rfl) ?_
  intro p e s m args below meth c A H0 Q ls hx hb hml hown hts hK hN hA hP hD hS hl hret
  have hown : s.vm.findClass RX5 = some m.cls := hown
  have hl : lv_has ls 3 [(0, .ref (q 0)), (1, .int p0)] := hl
  generalize hH : H0 = H at hP ⊢
  have hS : va_S A H0 H [] := by rw [← hH]; exact hS
  clear hH
  unfold f_X5_pass at hf
  refine lv_aload_n hx hb dX5_pass_0 rfl (lv_at hl 0 rfl) ?_
  refine va_get (D := D) (ci := 5) (v := .int visWriting) (C := RX5) (T := TX5) (N := 33) hx hb hts inX5_pass_X5 hown hK hP 0 rfl rfl 32 (by decide) (hts (.fieldLink RX5 259 "WordScalesModel" "isWriting" "Z") (List.mem_of_getElem? (i := 1) rfl)) (fun _ h9 => h9) rfl dX5_pass_1 ?_
  refine lv_if_eq (tgt := 11) hx hb dX5_pass_4 (by decide) (fun c1 => ?_) (fun c1 => ?_)
  · rw [if_pos c1] at hf
    refine lv_aload_n hx hb dX5_pass_11 rfl (lv_at hl 0 rfl) ?_
    refine va_get (D := D) (ci := 5) (v := .ref (q 18)) (C := RX5) (T := TX5) (N := 33) hx hb hts inX5_pass_X5 hown hK hP 0 rfl rfl 29 (by decide) (hts (.fieldLink RX5 62 "WordScalesModel" "kept" "[I") (List.mem_of_getElem? (i := 2) rfl)) (fun _ h9 => h9) rfl dX5_pass_12 ?_
    refine lv_aload_n hx hb dX5_pass_15 rfl (lv_at hl 0 rfl) ?_
    refine va_get (D := D) (ci := 5) (v := .int vkeptAt) (C := RX5) (T := TX5) (N := 33) hx hb hts inX5_pass_X5 hown hK hP 0 rfl rfl 31 (by decide) (hts (.fieldLink RX5 263 "WordScalesModel" "keptAt" "I") (List.mem_of_getElem? (i := 3) rfl)) (fun _ h9 => h9) rfl dX5_pass_16 ?_
    obtain ⟨v2, hf⟩ := chk_el hf
    refine va_iald (D := D) (f := vkept) hx hb hK hP 18 0 rfl rfl v2 dX5_pass_19 ?_
    refine lv_istore_n (lv' := [(2, .int (vkept (vkeptAt).toNatClampNeg)), (0, .ref (q 0)), (1, .int p0)]) hx hb dX5_pass_20 rfl hl (by decide) rfl (fun ls hl => ?_)
    refine lv_aload_n hx hb dX5_pass_21 rfl (lv_at hl 1 rfl) ?_
    refine va_get (D := D) (ci := 5) (v := .ref (q 18)) (C := RX5) (T := TX5) (N := 33) hx hb hts inX5_pass_X5 hown hK hP 0 rfl rfl 29 (by decide) (hts (.fieldLink RX5 62 "WordScalesModel" "kept" "[I") (List.mem_of_getElem? (i := 2) rfl)) (fun _ h9 => h9) rfl dX5_pass_22 ?_
    refine lv_aload_n hx hb dX5_pass_25 rfl (lv_at hl 1 rfl) ?_
    refine va_get (D := D) (ci := 5) (v := .int vkeptAt) (C := RX5) (T := TX5) (N := 33) hx hb hts inX5_pass_X5 hown hK hP 0 rfl rfl 31 (by decide) (hts (.fieldLink RX5 263 "WordScalesModel" "keptAt" "I") (List.mem_of_getElem? (i := 3) rfl)) (fun _ h9 => h9) rfl dX5_pass_26 ?_
    refine lv_iload_n hx hb dX5_pass_29 rfl (lv_at hl 0 rfl) ?_
    refine va_iast (D := D) (f := vkept) hx hb hK hP hD hS 18 0 rfl rfl v2 dX5_pass_30 (fun H locs hP hD hS => ?_)
    have hP : va_P D vwCl (mdW K q vweight vkind vrhymes vpurse vhas vwishes vwishMany vsightLeft vsightRight vsightHow vsights vpad vpadMany vact vwho vwhich vwhom vacts vplace vopenMany vended vspoken vheaviest vheaviestWeight vhad vbadAct vbadWhy vbrings vbringsThen (upd vkept (vkeptAt).toNatClampNeg (vkept (vkeptAt).toNatClampNeg)) visKept vkeptAt visWriting) H := hP
    have hD : va_D A (mdW K q vweight vkind vrhymes vpurse vhas vwishes vwishMany vsightLeft vsightRight vsightHow vsights vpad vpadMany vact vwho vwhich vwhom vacts vplace vopenMany vended vspoken vheaviest vheaviestWeight vhad vbadAct vbadWhy vbrings vbringsThen (upd vkept (vkeptAt).toNatClampNeg (vkept (vkeptAt).toNatClampNeg)) visKept vkeptAt visWriting) := hD
    refine lv_aload_n hx hb dX5_pass_31 rfl (lv_at hl 1 rfl) ?_
    refine lv_dup hx hb dX5_pass_32 rfl ?_
    refine va_get (D := D) (ci := 5) (v := .int vkeptAt) (C := RX5) (T := TX5) (N := 33) hx hb hts inX5_pass_X5 hown hK hP 0 rfl rfl 31 (by decide) (hts (.fieldLink RX5 263 "WordScalesModel" "keptAt" "I") (List.mem_of_getElem? (i := 3) rfl)) (fun _ h9 => h9) rfl dX5_pass_33 ?_
    refine lv_iconst (v := 1) hx hb dX5_pass_36 (by decide) ?_
    refine lv_iadd hx hb dX5_pass_37 ?_
    refine va_put (D := D) (ci := 5) (v := .int (vkeptAt + 1)) (ty := .int) (C := RX5) (T := TX5) (N := 33) hx hb hts inX5_pass_X5 tyX5 tyX5_ok nmX5 hown hK hP hD hS 0 rfl rfl 31 (by decide) (hts (.fieldLink RX5 263 "WordScalesModel" "keptAt" "I") (List.mem_of_getElem? (i := 3) rfl)) (fun _ h9 => h9) rfl (tyX5_ok 31 (by decide)) rfl rfl (Nat.le_of_ble_eq_true rfl) dX5_pass_38 (fun H locs hP hD hS => ?_)
    have hP : va_P D vwCl (mdW K q vweight vkind vrhymes vpurse vhas vwishes vwishMany vsightLeft vsightRight vsightHow vsights vpad vpadMany vact vwho vwhich vwhom vacts vplace vopenMany vended vspoken vheaviest vheaviestWeight vhad vbadAct vbadWhy vbrings vbringsThen (upd vkept (vkeptAt).toNatClampNeg (vkept (vkeptAt).toNatClampNeg)) visKept (vkeptAt + 1) visWriting) H := hP
    have hD : va_D A (mdW K q vweight vkind vrhymes vpurse vhas vwishes vwishMany vsightLeft vsightRight vsightHow vsights vpad vpadMany vact vwho vwhich vwhom vacts vplace vopenMany vended vspoken vheaviest vheaviestWeight vhad vbadAct vbadWhy vbrings vbringsThen (upd vkept (vkeptAt).toNatClampNeg (vkept (vkeptAt).toNatClampNeg)) visKept (vkeptAt + 1) visWriting) := hD
    refine lv_iload_n hx hb dX5_pass_41 rfl (lv_at hl 0 rfl) ?_
    obtain rfl := Option.some.inj hf
    exact hret rfl rfl rfl hP hD hS dX5_pass_42
  · rw [if_neg c1] at hf
    refine lv_iload_n hx hb dX5_pass_7 rfl (lv_at hl 1 rfl) ?_
    refine lv_goto (tgt := 20) hx hb dX5_pass_8 (by decide) ?_
    refine lv_istore_n (lv' := [(2, .int p0), (0, .ref (q 0)), (1, .int p0)]) hx hb dX5_pass_20 rfl hl (by decide) rfl (fun ls hl => ?_)
    refine lv_aload_n hx hb dX5_pass_21 rfl (lv_at hl 1 rfl) ?_
    refine va_get (D := D) (ci := 5) (v := .ref (q 18)) (C := RX5) (T := TX5) (N := 33) hx hb hts inX5_pass_X5 hown hK hP 0 rfl rfl 29 (by decide) (hts (.fieldLink RX5 62 "WordScalesModel" "kept" "[I") (List.mem_of_getElem? (i := 2) rfl)) (fun _ h9 => h9) rfl dX5_pass_22 ?_
    refine lv_aload_n hx hb dX5_pass_25 rfl (lv_at hl 1 rfl) ?_
    refine va_get (D := D) (ci := 5) (v := .int vkeptAt) (C := RX5) (T := TX5) (N := 33) hx hb hts inX5_pass_X5 hown hK hP 0 rfl rfl 31 (by decide) (hts (.fieldLink RX5 263 "WordScalesModel" "keptAt" "I") (List.mem_of_getElem? (i := 3) rfl)) (fun _ h9 => h9) rfl dX5_pass_26 ?_
    refine lv_iload_n hx hb dX5_pass_29 rfl (lv_at hl 0 rfl) ?_
    obtain ⟨v3, hf⟩ := chk_el hf
    refine va_iast (D := D) (f := vkept) hx hb hK hP hD hS 18 0 rfl rfl v3 dX5_pass_30 (fun H locs hP hD hS => ?_)
    have hP : va_P D vwCl (mdW K q vweight vkind vrhymes vpurse vhas vwishes vwishMany vsightLeft vsightRight vsightHow vsights vpad vpadMany vact vwho vwhich vwhom vacts vplace vopenMany vended vspoken vheaviest vheaviestWeight vhad vbadAct vbadWhy vbrings vbringsThen (upd vkept (vkeptAt).toNatClampNeg p0) visKept vkeptAt visWriting) H := hP
    have hD : va_D A (mdW K q vweight vkind vrhymes vpurse vhas vwishes vwishMany vsightLeft vsightRight vsightHow vsights vpad vpadMany vact vwho vwhich vwhom vacts vplace vopenMany vended vspoken vheaviest vheaviestWeight vhad vbadAct vbadWhy vbrings vbringsThen (upd vkept (vkeptAt).toNatClampNeg p0) visKept vkeptAt visWriting) := hD
    refine lv_aload_n hx hb dX5_pass_31 rfl (lv_at hl 1 rfl) ?_
    refine lv_dup hx hb dX5_pass_32 rfl ?_
    refine va_get (D := D) (ci := 5) (v := .int vkeptAt) (C := RX5) (T := TX5) (N := 33) hx hb hts inX5_pass_X5 hown hK hP 0 rfl rfl 31 (by decide) (hts (.fieldLink RX5 263 "WordScalesModel" "keptAt" "I") (List.mem_of_getElem? (i := 3) rfl)) (fun _ h9 => h9) rfl dX5_pass_33 ?_
    refine lv_iconst (v := 1) hx hb dX5_pass_36 (by decide) ?_
    refine lv_iadd hx hb dX5_pass_37 ?_
    refine va_put (D := D) (ci := 5) (v := .int (vkeptAt + 1)) (ty := .int) (C := RX5) (T := TX5) (N := 33) hx hb hts inX5_pass_X5 tyX5 tyX5_ok nmX5 hown hK hP hD hS 0 rfl rfl 31 (by decide) (hts (.fieldLink RX5 263 "WordScalesModel" "keptAt" "I") (List.mem_of_getElem? (i := 3) rfl)) (fun _ h9 => h9) rfl (tyX5_ok 31 (by decide)) rfl rfl (Nat.le_of_ble_eq_true rfl) dX5_pass_38 (fun H locs hP hD hS => ?_)
    have hP : va_P D vwCl (mdW K q vweight vkind vrhymes vpurse vhas vwishes vwishMany vsightLeft vsightRight vsightHow vsights vpad vpadMany vact vwho vwhich vwhom vacts vplace vopenMany vended vspoken vheaviest vheaviestWeight vhad vbadAct vbadWhy vbrings vbringsThen (upd vkept (vkeptAt).toNatClampNeg p0) visKept (vkeptAt + 1) visWriting) H := hP
    have hD : va_D A (mdW K q vweight vkind vrhymes vpurse vhas vwishes vwishMany vsightLeft vsightRight vsightHow vsights vpad vpadMany vact vwho vwhich vwhom vacts vplace vopenMany vended vspoken vheaviest vheaviestWeight vhad vbadAct vbadWhy vbrings vbringsThen (upd vkept (vkeptAt).toNatClampNeg p0) visKept (vkeptAt + 1) visWriting) := hD
    refine lv_iload_n hx hb dX5_pass_41 rfl (lv_at hl 0 rfl) ?_
    obtain rfl := Option.some.inj hf
    exact hret rfl rfl rfl hP hD hS dX5_pass_42
def s_X5_passRow_weight_2 (visWriting : Int32) (p1 : Int32) (x : Int32 × (Nat → Int32) × Int32 × (Nat → Int32)) : Option ((Int32 × (Nat → Int32) × Int32 × (Nat → Int32)) ⊕ (Int32 × (Nat → Int32) × Int32 × (Nat → Int32))) := if p1 ≤ x.1 then (some (.inr (x.1, x.2.1, x.2.2.1, x.2.2.2))) else (chk x.1 12 (ob (f_X5_pass x.2.1 x.2.2.1 visWriting (x.2.2.2 (x.1).toNatClampNeg)) (fun o4 => some (.inl ((x.1 + 1), o4.2.1, o4.2.2, (upd x.2.2.2 (x.1).toNatClampNeg o4.1))))))
def f_X5_passRow_weight (vweight : Nat → Int32) (vkept : Nat → Int32) (vkeptAt : Int32) (visWriting : Int32) (p1 : Int32) : Option ((Nat → Int32) × (Nat → Int32) × Int32) := ob (wh (s_X5_passRow_weight_2 visWriting p1) 5000 (0, vkept, vkeptAt, vweight)) (fun r1 => some (r1.2.2.2, r1.2.1, r1.2.2.1))
theorem yd_X5_passRow : yX5_passRow.cls ≠ "java/lang/invoke/MethodHandle" ∧ yX5_passRow.cls ≠ "java/lang/invoke/VarHandle" ∧ (parseMethodDescriptor yX5_passRow.desc).map (fun d => d.parameters.length) = some 2 := by decide +kernel
abbrev rmX5_passRow : Room := { frames := 1, cells := 0, slots := 0, locals := 22 }
set_option maxHeartbeats 4000000 in
set_option maxRecDepth 100000 in
theorem k_X5_passRow_weight (l : Launch) (D : va_G) (K : Nat → ClassId) (q : Nat → Nat) (vweight : Nat → Int32) (vkind : Nat → Int32) (vrhymes : Nat → Int32) (vpurse : Nat → Int32) (vhas : Nat → Int32) (vwishes : Nat → Int32) (vwishMany : Int32) (vsightLeft : Nat → Int32) (vsightRight : Nat → Int32) (vsightHow : Nat → Int32) (vsights : Int32) (vpad : Nat → Int32) (vpadMany : Int32) (vact : Nat → Int32) (vwho : Nat → Int32) (vwhich : Nat → Int32) (vwhom : Nat → Int32) (vacts : Int32) (vplace : Int32) (vopenMany : Int32) (vended : Int32) (vspoken : Int32) (vheaviest : Int32) (vheaviestWeight : Int32) (vhad : Nat → Int32) (vbadAct : Int32) (vbadWhy : Int32) (vbrings : Nat → Int64) (vbringsThen : Nat → Int64) (vkept : Nat → Int32) (visKept : Nat → Int32) (vkeptAt : Int32) (visWriting : Int32) (p1 : Int32) (out : (Nat → Int32) × (Nat → Int32) × Int32) (hf : f_X5_passRow_weight vweight vkept vkeptAt visWriting p1 = some out) : kV l D K yX5_passRow wsX5_passRow rmX5_passRow [.ref (q 0), .ref (q 1), .int p1] (mdW K q vweight vkind vrhymes vpurse vhas vwishes vwishMany vsightLeft vsightRight vsightHow vsights vpad vpadMany vact vwho vwhich vwhom vacts vplace vopenMany vended vspoken vheaviest vheaviestWeight vhad vbadAct vbadWhy vbrings vbringsThen vkept visKept vkeptAt visWriting) (mdW K q out.1 vkind vrhymes vpurse vhas vwishes vwishMany vsightLeft vsightRight vsightHow vsights vpad vpadMany vact vwho vwhich vwhom vacts vplace vopenMany vended vspoken vheaviest vheaviestWeight vhad vbadAct vbadWhy vbrings vbringsThen out.2.1 visKept out.2.2 visWriting) := by
  refine kV.of (cc := cX5_passRow) (maxL := 4) (by decide) rfl (Nat.le_of_ble_eq_true rfl) ?_
  intro p e s m args below meth c A H0 Q ls hx hb hml hown hts hK hN hA hP hD hS hl hret
  have hown : s.vm.findClass RX5 = some m.cls := hown
  have hl : lv_has ls 4 [(0, .ref (q 0)), (1, .ref (q 1)), (2, .int p1)] := hl
  generalize hH : H0 = H at hP ⊢
  have hS : va_S A H0 H [] := by rw [← hH]; exact hS
  clear hH
  unfold f_X5_passRow_weight at hf
  refine lv_iconst (v := 0) hx hb dX5_passRow_0 (by decide) ?_
  refine lv_istore_n (lv' := [(3, .int 0), (0, .ref (q 0)), (1, .ref (q 1)), (2, .int p1)]) hx hb dX5_passRow_1 rfl hl (by decide) rfl (fun ls hl => ?_)
  obtain ⟨r1, hr1, hf⟩ := ob_el hf
  have post2 : ∀ (e2_l3 : Int32) (e2_kept : Nat → Int32) (e2_keptAt : Int32) (e2_weight : Nat → Int32) (H : Heap) (locs : List Loc) (ls : Array Slot), (some (e2_weight, e2_kept, e2_keptAt)) = some out → va_P D vwCl (mdW K q e2_weight vkind vrhymes vpurse vhas vwishes vwishMany vsightLeft vsightRight vsightHow vsights vpad vpadMany vact vwho vwhich vwhom vacts vplace vopenMany vended vspoken vheaviest vheaviestWeight vhad vbadAct vbadWhy vbrings vbringsThen e2_kept visKept e2_keptAt visWriting) H → va_D A (mdW K q e2_weight vkind vrhymes vpurse vhas vwishes vwishMany vsightLeft vsightRight vsightHow vsights vpad vpadMany vact vwho vwhich vwhom vacts vplace vopenMany vended vspoken vheaviest vheaviestWeight vhad vbadAct vbadWhy vbrings vbringsThen e2_kept visKept e2_keptAt visWriting) → va_S A H0 H locs → lv_has ls 4 [(3, .int e2_l3), (0, .ref (q 0)), (1, .ref (q 1)), (2, .int p1)] → W p l e rmX5_passRow s m args below meth c H locs 0 0 Q (F0 m 23 ls []) := by
    intro e2_l3 e2_kept e2_keptAt e2_weight H locs ls hf hP hD hS hl
    obtain rfl := Option.some.inj hf
    exact hret rfl hP hD hS dX5_passRow_23
  have lp2 : ∀ (fu : Nat) (x2_l3 : Int32) (x2_kept : Nat → Int32) (x2_keptAt : Int32) (x2_weight : Nat → Int32) (H : Heap) (locs : List Loc) (ls : Array Slot), wh (s_X5_passRow_weight_2 visWriting p1) fu (x2_l3, x2_kept, x2_keptAt, x2_weight) = some r1 → va_P D vwCl (mdW K q x2_weight vkind vrhymes vpurse vhas vwishes vwishMany vsightLeft vsightRight vsightHow vsights vpad vpadMany vact vwho vwhich vwhom vacts vplace vopenMany vended vspoken vheaviest vheaviestWeight vhad vbadAct vbadWhy vbrings vbringsThen x2_kept visKept x2_keptAt visWriting) H → va_D A (mdW K q x2_weight vkind vrhymes vpurse vhas vwishes vwishMany vsightLeft vsightRight vsightHow vsights vpad vpadMany vact vwho vwhich vwhom vacts vplace vopenMany vended vspoken vheaviest vheaviestWeight vhad vbadAct vbadWhy vbrings vbringsThen x2_kept visKept x2_keptAt visWriting) → va_S A H0 H locs → lv_has ls 4 [(3, .int x2_l3), (0, .ref (q 0)), (1, .ref (q 1)), (2, .int p1)] → W p l e rmX5_passRow s m args below meth c H locs 0 0 Q (F0 m 2 ls []) := by
    intro fu
    induction fu with
    | zero => intro x2_l3 x2_kept x2_keptAt x2_weight H locs ls hw2; cases hw2
    | succ fu ih2 =>
      intro x2_l3 x2_kept x2_keptAt x2_weight H locs ls hw2 hP hD hS hl
      obtain ⟨o2_, hs2, hw2⟩ := wh_el hw2
      unfold s_X5_passRow_weight_2 at hs2
      dsimp only at hs2
      refine lv_iload_n hx hb dX5_passRow_2 rfl (lv_at hl 0 rfl) ?_
      refine lv_iload_n hx hb dX5_passRow_3 rfl (lv_at hl 3 rfl) ?_
      refine lv_icmp_ge (tgt := 23) hx hb dX5_passRow_4 (by decide) (fun c2 => ?_) (fun c2 => ?_)
      · rw [if_pos c2] at hs2
        obtain rfl := Option.some.inj hs2
        have e9 := Option.some.inj hw2
        rw [← e9] at hf
        exact post2 _ _ _ _ _ _ _ hf hP hD hS (lv_sub hl [0, 1, 2, 3] rfl)
      · rw [if_neg c2] at hs2
        refine lv_aload_n hx hb dX5_passRow_7 rfl (lv_at hl 2 rfl) ?_
        refine lv_iload_n hx hb dX5_passRow_8 rfl (lv_at hl 0 rfl) ?_
        refine lv_aload_n hx hb dX5_passRow_9 rfl (lv_at hl 1 rfl) ?_
        refine lv_aload_n hx hb dX5_passRow_10 rfl (lv_at hl 2 rfl) ?_
        refine lv_iload_n hx hb dX5_passRow_11 rfl (lv_at hl 0 rfl) ?_
        obtain ⟨v3, hs2⟩ := chk_el hs2
        refine va_iald (D := D) (f := x2_weight) hx hb hK hP 1 0 rfl rfl v3 dX5_passRow_12 ?_
        obtain ⟨o4, ho4, hs2⟩ := ob_el hs2
        refine kcw_i (D := D) (va_runV (As := [.int (x2_weight (x2_l3).toNatClampNeg)]) (rest := [.int x2_l3, .ref (q 1)]) ⟨hx, hb, hml, hown, hts⟩ ((k_X5_pass l D K q x2_weight vkind vrhymes vpurse vhas vwishes vwishMany vsightLeft vsightRight vsightHow vsights vpad vpadMany vact vwho vwhich vwhom vacts vplace vopenMany vended vspoken vheaviest vheaviestWeight vhad vbadAct vbadWhy vbrings vbringsThen x2_kept visKept x2_keptAt visWriting (x2_weight (x2_l3).toNatClampNeg) o4 ho4) H.size) (cwV 1 hts gX5_passRow_X5_pass rfl rfl rfl ⟨rfl, yd_X5_pass⟩ ⟨Nat.le_of_ble_eq_true rfl, Nat.le_of_ble_eq_true rfl⟩) (kPreV (ci := 5) (q0 := 0) hP rfl rfl hP hD hK hN) rfl rfl hl.1 rfl (lv_room (Nat.le_of_ble_eq_true rfl)) dX5_passRow_13 ⟨Nat.le_of_ble_eq_true rfl, Nat.le_of_ble_eq_true rfl⟩) hD hS hA (fun hzo4 H locs hP hD hS => ?_)
        have hP : va_P D vwCl (mdW K q x2_weight vkind vrhymes vpurse vhas vwishes vwishMany vsightLeft vsightRight vsightHow vsights vpad vpadMany vact vwho vwhich vwhom vacts vplace vopenMany vended vspoken vheaviest vheaviestWeight vhad vbadAct vbadWhy vbrings vbringsThen o4.2.1 visKept o4.2.2 visWriting) H := hP
        have hD : va_D A (mdW K q x2_weight vkind vrhymes vpurse vhas vwishes vwishMany vsightLeft vsightRight vsightHow vsights vpad vpadMany vact vwho vwhich vwhom vacts vplace vopenMany vended vspoken vheaviest vheaviestWeight vhad vbadAct vbadWhy vbrings vbringsThen o4.2.1 visKept o4.2.2 visWriting) := hD
        refine va_iast (D := D) (f := x2_weight) hx hb hK hP hD hS 1 0 rfl rfl v3 dX5_passRow_16 (fun H locs hP hD hS => ?_)
        have hP : va_P D vwCl (mdW K q (upd x2_weight (x2_l3).toNatClampNeg o4.1) vkind vrhymes vpurse vhas vwishes vwishMany vsightLeft vsightRight vsightHow vsights vpad vpadMany vact vwho vwhich vwhom vacts vplace vopenMany vended vspoken vheaviest vheaviestWeight vhad vbadAct vbadWhy vbrings vbringsThen o4.2.1 visKept o4.2.2 visWriting) H := hP
        have hD : va_D A (mdW K q (upd x2_weight (x2_l3).toNatClampNeg o4.1) vkind vrhymes vpurse vhas vwishes vwishMany vsightLeft vsightRight vsightHow vsights vpad vpadMany vact vwho vwhich vwhom vacts vplace vopenMany vended vspoken vheaviest vheaviestWeight vhad vbadAct vbadWhy vbrings vbringsThen o4.2.1 visKept o4.2.2 visWriting) := hD
        refine lv_iinc (v := (x2_l3 + 1)) (lv' := [(3, .int (x2_l3 + 1)), (0, .ref (q 0)), (1, .ref (q 1)), (2, .int p1)]) hx hb dX5_passRow_17 hl (k := 0) rfl (by rfl) (by decide) rfl (fun ls hl => ?_)
        refine lv_goto (tgt := 2) hx hb dX5_passRow_20 (by decide) ?_
        obtain rfl := Option.some.inj hs2
        exact ih2 _ _ _ _ _ _ _ hw2 hP hD hS (lv_sub hl [0, 1, 2, 3] rfl)
  exact lp2 5000 _ _ _ _ _ _ _ hr1 hP hD hS (lv_sub hl [0, 1, 2, 3] rfl)
def s_X5_passRow_kind_2 (visWriting : Int32) (p1 : Int32) (x : Int32 × (Nat → Int32) × Int32 × (Nat → Int32)) : Option ((Int32 × (Nat → Int32) × Int32 × (Nat → Int32)) ⊕ (Int32 × (Nat → Int32) × Int32 × (Nat → Int32))) := if p1 ≤ x.1 then (some (.inr (x.1, x.2.1, x.2.2.1, x.2.2.2))) else (chk x.1 12 (ob (f_X5_pass x.2.1 x.2.2.1 visWriting (x.2.2.2 (x.1).toNatClampNeg)) (fun o4 => some (.inl ((x.1 + 1), o4.2.1, o4.2.2, (upd x.2.2.2 (x.1).toNatClampNeg o4.1))))))
def f_X5_passRow_kind (vkind : Nat → Int32) (vkept : Nat → Int32) (vkeptAt : Int32) (visWriting : Int32) (p1 : Int32) : Option ((Nat → Int32) × (Nat → Int32) × Int32) := ob (wh (s_X5_passRow_kind_2 visWriting p1) 5000 (0, vkept, vkeptAt, vkind)) (fun r1 => some (r1.2.2.2, r1.2.1, r1.2.2.1))
set_option maxHeartbeats 4000000 in
set_option maxRecDepth 100000 in
theorem k_X5_passRow_kind (l : Launch) (D : va_G) (K : Nat → ClassId) (q : Nat → Nat) (vweight : Nat → Int32) (vkind : Nat → Int32) (vrhymes : Nat → Int32) (vpurse : Nat → Int32) (vhas : Nat → Int32) (vwishes : Nat → Int32) (vwishMany : Int32) (vsightLeft : Nat → Int32) (vsightRight : Nat → Int32) (vsightHow : Nat → Int32) (vsights : Int32) (vpad : Nat → Int32) (vpadMany : Int32) (vact : Nat → Int32) (vwho : Nat → Int32) (vwhich : Nat → Int32) (vwhom : Nat → Int32) (vacts : Int32) (vplace : Int32) (vopenMany : Int32) (vended : Int32) (vspoken : Int32) (vheaviest : Int32) (vheaviestWeight : Int32) (vhad : Nat → Int32) (vbadAct : Int32) (vbadWhy : Int32) (vbrings : Nat → Int64) (vbringsThen : Nat → Int64) (vkept : Nat → Int32) (visKept : Nat → Int32) (vkeptAt : Int32) (visWriting : Int32) (p1 : Int32) (out : (Nat → Int32) × (Nat → Int32) × Int32) (hf : f_X5_passRow_kind vkind vkept vkeptAt visWriting p1 = some out) : kV l D K yX5_passRow wsX5_passRow rmX5_passRow [.ref (q 0), .ref (q 2), .int p1] (mdW K q vweight vkind vrhymes vpurse vhas vwishes vwishMany vsightLeft vsightRight vsightHow vsights vpad vpadMany vact vwho vwhich vwhom vacts vplace vopenMany vended vspoken vheaviest vheaviestWeight vhad vbadAct vbadWhy vbrings vbringsThen vkept visKept vkeptAt visWriting) (mdW K q vweight out.1 vrhymes vpurse vhas vwishes vwishMany vsightLeft vsightRight vsightHow vsights vpad vpadMany vact vwho vwhich vwhom vacts vplace vopenMany vended vspoken vheaviest vheaviestWeight vhad vbadAct vbadWhy vbrings vbringsThen out.2.1 visKept out.2.2 visWriting) := by
  refine kV.of (cc := cX5_passRow) (maxL := 4) (by decide) rfl (Nat.le_of_ble_eq_true rfl) ?_
  intro p e s m args below meth c A H0 Q ls hx hb hml hown hts hK hN hA hP hD hS hl hret
  have hown : s.vm.findClass RX5 = some m.cls := hown
  have hl : lv_has ls 4 [(0, .ref (q 0)), (1, .ref (q 2)), (2, .int p1)] := hl
  generalize hH : H0 = H at hP ⊢
  have hS : va_S A H0 H [] := by rw [← hH]; exact hS
  clear hH
  unfold f_X5_passRow_kind at hf
  refine lv_iconst (v := 0) hx hb dX5_passRow_0 (by decide) ?_
  refine lv_istore_n (lv' := [(3, .int 0), (0, .ref (q 0)), (1, .ref (q 2)), (2, .int p1)]) hx hb dX5_passRow_1 rfl hl (by decide) rfl (fun ls hl => ?_)
  obtain ⟨r1, hr1, hf⟩ := ob_el hf
  have post2 : ∀ (e2_l3 : Int32) (e2_kept : Nat → Int32) (e2_keptAt : Int32) (e2_kind : Nat → Int32) (H : Heap) (locs : List Loc) (ls : Array Slot), (some (e2_kind, e2_kept, e2_keptAt)) = some out → va_P D vwCl (mdW K q vweight e2_kind vrhymes vpurse vhas vwishes vwishMany vsightLeft vsightRight vsightHow vsights vpad vpadMany vact vwho vwhich vwhom vacts vplace vopenMany vended vspoken vheaviest vheaviestWeight vhad vbadAct vbadWhy vbrings vbringsThen e2_kept visKept e2_keptAt visWriting) H → va_D A (mdW K q vweight e2_kind vrhymes vpurse vhas vwishes vwishMany vsightLeft vsightRight vsightHow vsights vpad vpadMany vact vwho vwhich vwhom vacts vplace vopenMany vended vspoken vheaviest vheaviestWeight vhad vbadAct vbadWhy vbrings vbringsThen e2_kept visKept e2_keptAt visWriting) → va_S A H0 H locs → lv_has ls 4 [(3, .int e2_l3), (0, .ref (q 0)), (1, .ref (q 2)), (2, .int p1)] → W p l e rmX5_passRow s m args below meth c H locs 0 0 Q (F0 m 23 ls []) := by
    intro e2_l3 e2_kept e2_keptAt e2_kind H locs ls hf hP hD hS hl
    obtain rfl := Option.some.inj hf
    exact hret rfl hP hD hS dX5_passRow_23
  have lp2 : ∀ (fu : Nat) (x2_l3 : Int32) (x2_kept : Nat → Int32) (x2_keptAt : Int32) (x2_kind : Nat → Int32) (H : Heap) (locs : List Loc) (ls : Array Slot), wh (s_X5_passRow_kind_2 visWriting p1) fu (x2_l3, x2_kept, x2_keptAt, x2_kind) = some r1 → va_P D vwCl (mdW K q vweight x2_kind vrhymes vpurse vhas vwishes vwishMany vsightLeft vsightRight vsightHow vsights vpad vpadMany vact vwho vwhich vwhom vacts vplace vopenMany vended vspoken vheaviest vheaviestWeight vhad vbadAct vbadWhy vbrings vbringsThen x2_kept visKept x2_keptAt visWriting) H → va_D A (mdW K q vweight x2_kind vrhymes vpurse vhas vwishes vwishMany vsightLeft vsightRight vsightHow vsights vpad vpadMany vact vwho vwhich vwhom vacts vplace vopenMany vended vspoken vheaviest vheaviestWeight vhad vbadAct vbadWhy vbrings vbringsThen x2_kept visKept x2_keptAt visWriting) → va_S A H0 H locs → lv_has ls 4 [(3, .int x2_l3), (0, .ref (q 0)), (1, .ref (q 2)), (2, .int p1)] → W p l e rmX5_passRow s m args below meth c H locs 0 0 Q (F0 m 2 ls []) := by
    intro fu
    induction fu with
    | zero => intro x2_l3 x2_kept x2_keptAt x2_kind H locs ls hw2; cases hw2
    | succ fu ih2 =>
      intro x2_l3 x2_kept x2_keptAt x2_kind H locs ls hw2 hP hD hS hl
      obtain ⟨o2_, hs2, hw2⟩ := wh_el hw2
      unfold s_X5_passRow_kind_2 at hs2
      dsimp only at hs2
      refine lv_iload_n hx hb dX5_passRow_2 rfl (lv_at hl 0 rfl) ?_
      refine lv_iload_n hx hb dX5_passRow_3 rfl (lv_at hl 3 rfl) ?_
      refine lv_icmp_ge (tgt := 23) hx hb dX5_passRow_4 (by decide) (fun c2 => ?_) (fun c2 => ?_)
      · rw [if_pos c2] at hs2
        obtain rfl := Option.some.inj hs2
        have e9 := Option.some.inj hw2
        rw [← e9] at hf
        exact post2 _ _ _ _ _ _ _ hf hP hD hS (lv_sub hl [0, 1, 2, 3] rfl)
      · rw [if_neg c2] at hs2
        refine lv_aload_n hx hb dX5_passRow_7 rfl (lv_at hl 2 rfl) ?_
        refine lv_iload_n hx hb dX5_passRow_8 rfl (lv_at hl 0 rfl) ?_
        refine lv_aload_n hx hb dX5_passRow_9 rfl (lv_at hl 1 rfl) ?_
        refine lv_aload_n hx hb dX5_passRow_10 rfl (lv_at hl 2 rfl) ?_
        refine lv_iload_n hx hb dX5_passRow_11 rfl (lv_at hl 0 rfl) ?_
        obtain ⟨v3, hs2⟩ := chk_el hs2
        refine va_iald (D := D) (f := x2_kind) hx hb hK hP 2 0 rfl rfl v3 dX5_passRow_12 ?_
        obtain ⟨o4, ho4, hs2⟩ := ob_el hs2
        refine kcw_i (D := D) (va_runV (As := [.int (x2_kind (x2_l3).toNatClampNeg)]) (rest := [.int x2_l3, .ref (q 2)]) ⟨hx, hb, hml, hown, hts⟩ ((k_X5_pass l D K q vweight x2_kind vrhymes vpurse vhas vwishes vwishMany vsightLeft vsightRight vsightHow vsights vpad vpadMany vact vwho vwhich vwhom vacts vplace vopenMany vended vspoken vheaviest vheaviestWeight vhad vbadAct vbadWhy vbrings vbringsThen x2_kept visKept x2_keptAt visWriting (x2_kind (x2_l3).toNatClampNeg) o4 ho4) H.size) (cwV 1 hts gX5_passRow_X5_pass rfl rfl rfl ⟨rfl, yd_X5_pass⟩ ⟨Nat.le_of_ble_eq_true rfl, Nat.le_of_ble_eq_true rfl⟩) (kPreV (ci := 5) (q0 := 0) hP rfl rfl hP hD hK hN) rfl rfl hl.1 rfl (lv_room (Nat.le_of_ble_eq_true rfl)) dX5_passRow_13 ⟨Nat.le_of_ble_eq_true rfl, Nat.le_of_ble_eq_true rfl⟩) hD hS hA (fun hzo4 H locs hP hD hS => ?_)
        have hP : va_P D vwCl (mdW K q vweight x2_kind vrhymes vpurse vhas vwishes vwishMany vsightLeft vsightRight vsightHow vsights vpad vpadMany vact vwho vwhich vwhom vacts vplace vopenMany vended vspoken vheaviest vheaviestWeight vhad vbadAct vbadWhy vbrings vbringsThen o4.2.1 visKept o4.2.2 visWriting) H := hP
        have hD : va_D A (mdW K q vweight x2_kind vrhymes vpurse vhas vwishes vwishMany vsightLeft vsightRight vsightHow vsights vpad vpadMany vact vwho vwhich vwhom vacts vplace vopenMany vended vspoken vheaviest vheaviestWeight vhad vbadAct vbadWhy vbrings vbringsThen o4.2.1 visKept o4.2.2 visWriting) := hD
        refine va_iast (D := D) (f := x2_kind) hx hb hK hP hD hS 2 0 rfl rfl v3 dX5_passRow_16 (fun H locs hP hD hS => ?_)
        have hP : va_P D vwCl (mdW K q vweight (upd x2_kind (x2_l3).toNatClampNeg o4.1) vrhymes vpurse vhas vwishes vwishMany vsightLeft vsightRight vsightHow vsights vpad vpadMany vact vwho vwhich vwhom vacts vplace vopenMany vended vspoken vheaviest vheaviestWeight vhad vbadAct vbadWhy vbrings vbringsThen o4.2.1 visKept o4.2.2 visWriting) H := hP
        have hD : va_D A (mdW K q vweight (upd x2_kind (x2_l3).toNatClampNeg o4.1) vrhymes vpurse vhas vwishes vwishMany vsightLeft vsightRight vsightHow vsights vpad vpadMany vact vwho vwhich vwhom vacts vplace vopenMany vended vspoken vheaviest vheaviestWeight vhad vbadAct vbadWhy vbrings vbringsThen o4.2.1 visKept o4.2.2 visWriting) := hD
        refine lv_iinc (v := (x2_l3 + 1)) (lv' := [(3, .int (x2_l3 + 1)), (0, .ref (q 0)), (1, .ref (q 2)), (2, .int p1)]) hx hb dX5_passRow_17 hl (k := 0) rfl (by rfl) (by decide) rfl (fun ls hl => ?_)
        refine lv_goto (tgt := 2) hx hb dX5_passRow_20 (by decide) ?_
        obtain rfl := Option.some.inj hs2
        exact ih2 _ _ _ _ _ _ _ hw2 hP hD hS (lv_sub hl [0, 1, 2, 3] rfl)
  exact lp2 5000 _ _ _ _ _ _ _ hr1 hP hD hS (lv_sub hl [0, 1, 2, 3] rfl)
def s_X5_passRow_rhymes_2 (visWriting : Int32) (p1 : Int32) (x : Int32 × (Nat → Int32) × Int32 × (Nat → Int32)) : Option ((Int32 × (Nat → Int32) × Int32 × (Nat → Int32)) ⊕ (Int32 × (Nat → Int32) × Int32 × (Nat → Int32))) := if p1 ≤ x.1 then (some (.inr (x.1, x.2.1, x.2.2.1, x.2.2.2))) else (chk x.1 12 (ob (f_X5_pass x.2.1 x.2.2.1 visWriting (x.2.2.2 (x.1).toNatClampNeg)) (fun o4 => some (.inl ((x.1 + 1), o4.2.1, o4.2.2, (upd x.2.2.2 (x.1).toNatClampNeg o4.1))))))
def f_X5_passRow_rhymes (vrhymes : Nat → Int32) (vkept : Nat → Int32) (vkeptAt : Int32) (visWriting : Int32) (p1 : Int32) : Option ((Nat → Int32) × (Nat → Int32) × Int32) := ob (wh (s_X5_passRow_rhymes_2 visWriting p1) 5000 (0, vkept, vkeptAt, vrhymes)) (fun r1 => some (r1.2.2.2, r1.2.1, r1.2.2.1))
set_option maxHeartbeats 4000000 in
set_option maxRecDepth 100000 in
theorem k_X5_passRow_rhymes (l : Launch) (D : va_G) (K : Nat → ClassId) (q : Nat → Nat) (vweight : Nat → Int32) (vkind : Nat → Int32) (vrhymes : Nat → Int32) (vpurse : Nat → Int32) (vhas : Nat → Int32) (vwishes : Nat → Int32) (vwishMany : Int32) (vsightLeft : Nat → Int32) (vsightRight : Nat → Int32) (vsightHow : Nat → Int32) (vsights : Int32) (vpad : Nat → Int32) (vpadMany : Int32) (vact : Nat → Int32) (vwho : Nat → Int32) (vwhich : Nat → Int32) (vwhom : Nat → Int32) (vacts : Int32) (vplace : Int32) (vopenMany : Int32) (vended : Int32) (vspoken : Int32) (vheaviest : Int32) (vheaviestWeight : Int32) (vhad : Nat → Int32) (vbadAct : Int32) (vbadWhy : Int32) (vbrings : Nat → Int64) (vbringsThen : Nat → Int64) (vkept : Nat → Int32) (visKept : Nat → Int32) (vkeptAt : Int32) (visWriting : Int32) (p1 : Int32) (out : (Nat → Int32) × (Nat → Int32) × Int32) (hf : f_X5_passRow_rhymes vrhymes vkept vkeptAt visWriting p1 = some out) : kV l D K yX5_passRow wsX5_passRow rmX5_passRow [.ref (q 0), .ref (q 3), .int p1] (mdW K q vweight vkind vrhymes vpurse vhas vwishes vwishMany vsightLeft vsightRight vsightHow vsights vpad vpadMany vact vwho vwhich vwhom vacts vplace vopenMany vended vspoken vheaviest vheaviestWeight vhad vbadAct vbadWhy vbrings vbringsThen vkept visKept vkeptAt visWriting) (mdW K q vweight vkind out.1 vpurse vhas vwishes vwishMany vsightLeft vsightRight vsightHow vsights vpad vpadMany vact vwho vwhich vwhom vacts vplace vopenMany vended vspoken vheaviest vheaviestWeight vhad vbadAct vbadWhy vbrings vbringsThen out.2.1 visKept out.2.2 visWriting) := by
  refine kV.of (cc := cX5_passRow) (maxL := 4) (by decide) rfl (Nat.le_of_ble_eq_true rfl) ?_
  intro p e s m args below meth c A H0 Q ls hx hb hml hown hts hK hN hA hP hD hS hl hret
  have hown : s.vm.findClass RX5 = some m.cls := hown
  have hl : lv_has ls 4 [(0, .ref (q 0)), (1, .ref (q 3)), (2, .int p1)] := hl
  generalize hH : H0 = H at hP ⊢
  have hS : va_S A H0 H [] := by rw [← hH]; exact hS
  clear hH
  unfold f_X5_passRow_rhymes at hf
  refine lv_iconst (v := 0) hx hb dX5_passRow_0 (by decide) ?_
  refine lv_istore_n (lv' := [(3, .int 0), (0, .ref (q 0)), (1, .ref (q 3)), (2, .int p1)]) hx hb dX5_passRow_1 rfl hl (by decide) rfl (fun ls hl => ?_)
  obtain ⟨r1, hr1, hf⟩ := ob_el hf
  have post2 : ∀ (e2_l3 : Int32) (e2_kept : Nat → Int32) (e2_keptAt : Int32) (e2_rhymes : Nat → Int32) (H : Heap) (locs : List Loc) (ls : Array Slot), (some (e2_rhymes, e2_kept, e2_keptAt)) = some out → va_P D vwCl (mdW K q vweight vkind e2_rhymes vpurse vhas vwishes vwishMany vsightLeft vsightRight vsightHow vsights vpad vpadMany vact vwho vwhich vwhom vacts vplace vopenMany vended vspoken vheaviest vheaviestWeight vhad vbadAct vbadWhy vbrings vbringsThen e2_kept visKept e2_keptAt visWriting) H → va_D A (mdW K q vweight vkind e2_rhymes vpurse vhas vwishes vwishMany vsightLeft vsightRight vsightHow vsights vpad vpadMany vact vwho vwhich vwhom vacts vplace vopenMany vended vspoken vheaviest vheaviestWeight vhad vbadAct vbadWhy vbrings vbringsThen e2_kept visKept e2_keptAt visWriting) → va_S A H0 H locs → lv_has ls 4 [(3, .int e2_l3), (0, .ref (q 0)), (1, .ref (q 3)), (2, .int p1)] → W p l e rmX5_passRow s m args below meth c H locs 0 0 Q (F0 m 23 ls []) := by
    intro e2_l3 e2_kept e2_keptAt e2_rhymes H locs ls hf hP hD hS hl
    obtain rfl := Option.some.inj hf
    exact hret rfl hP hD hS dX5_passRow_23
  have lp2 : ∀ (fu : Nat) (x2_l3 : Int32) (x2_kept : Nat → Int32) (x2_keptAt : Int32) (x2_rhymes : Nat → Int32) (H : Heap) (locs : List Loc) (ls : Array Slot), wh (s_X5_passRow_rhymes_2 visWriting p1) fu (x2_l3, x2_kept, x2_keptAt, x2_rhymes) = some r1 → va_P D vwCl (mdW K q vweight vkind x2_rhymes vpurse vhas vwishes vwishMany vsightLeft vsightRight vsightHow vsights vpad vpadMany vact vwho vwhich vwhom vacts vplace vopenMany vended vspoken vheaviest vheaviestWeight vhad vbadAct vbadWhy vbrings vbringsThen x2_kept visKept x2_keptAt visWriting) H → va_D A (mdW K q vweight vkind x2_rhymes vpurse vhas vwishes vwishMany vsightLeft vsightRight vsightHow vsights vpad vpadMany vact vwho vwhich vwhom vacts vplace vopenMany vended vspoken vheaviest vheaviestWeight vhad vbadAct vbadWhy vbrings vbringsThen x2_kept visKept x2_keptAt visWriting) → va_S A H0 H locs → lv_has ls 4 [(3, .int x2_l3), (0, .ref (q 0)), (1, .ref (q 3)), (2, .int p1)] → W p l e rmX5_passRow s m args below meth c H locs 0 0 Q (F0 m 2 ls []) := by
    intro fu
    induction fu with
    | zero => intro x2_l3 x2_kept x2_keptAt x2_rhymes H locs ls hw2; cases hw2
    | succ fu ih2 =>
      intro x2_l3 x2_kept x2_keptAt x2_rhymes H locs ls hw2 hP hD hS hl
      obtain ⟨o2_, hs2, hw2⟩ := wh_el hw2
      unfold s_X5_passRow_rhymes_2 at hs2
      dsimp only at hs2
      refine lv_iload_n hx hb dX5_passRow_2 rfl (lv_at hl 0 rfl) ?_
      refine lv_iload_n hx hb dX5_passRow_3 rfl (lv_at hl 3 rfl) ?_
      refine lv_icmp_ge (tgt := 23) hx hb dX5_passRow_4 (by decide) (fun c2 => ?_) (fun c2 => ?_)
      · rw [if_pos c2] at hs2
        obtain rfl := Option.some.inj hs2
        have e9 := Option.some.inj hw2
        rw [← e9] at hf
        exact post2 _ _ _ _ _ _ _ hf hP hD hS (lv_sub hl [0, 1, 2, 3] rfl)
      · rw [if_neg c2] at hs2
        refine lv_aload_n hx hb dX5_passRow_7 rfl (lv_at hl 2 rfl) ?_
        refine lv_iload_n hx hb dX5_passRow_8 rfl (lv_at hl 0 rfl) ?_
        refine lv_aload_n hx hb dX5_passRow_9 rfl (lv_at hl 1 rfl) ?_
        refine lv_aload_n hx hb dX5_passRow_10 rfl (lv_at hl 2 rfl) ?_
        refine lv_iload_n hx hb dX5_passRow_11 rfl (lv_at hl 0 rfl) ?_
        obtain ⟨v3, hs2⟩ := chk_el hs2
        refine va_iald (D := D) (f := x2_rhymes) hx hb hK hP 3 0 rfl rfl v3 dX5_passRow_12 ?_
        obtain ⟨o4, ho4, hs2⟩ := ob_el hs2
        refine kcw_i (D := D) (va_runV (As := [.int (x2_rhymes (x2_l3).toNatClampNeg)]) (rest := [.int x2_l3, .ref (q 3)]) ⟨hx, hb, hml, hown, hts⟩ ((k_X5_pass l D K q vweight vkind x2_rhymes vpurse vhas vwishes vwishMany vsightLeft vsightRight vsightHow vsights vpad vpadMany vact vwho vwhich vwhom vacts vplace vopenMany vended vspoken vheaviest vheaviestWeight vhad vbadAct vbadWhy vbrings vbringsThen x2_kept visKept x2_keptAt visWriting (x2_rhymes (x2_l3).toNatClampNeg) o4 ho4) H.size) (cwV 1 hts gX5_passRow_X5_pass rfl rfl rfl ⟨rfl, yd_X5_pass⟩ ⟨Nat.le_of_ble_eq_true rfl, Nat.le_of_ble_eq_true rfl⟩) (kPreV (ci := 5) (q0 := 0) hP rfl rfl hP hD hK hN) rfl rfl hl.1 rfl (lv_room (Nat.le_of_ble_eq_true rfl)) dX5_passRow_13 ⟨Nat.le_of_ble_eq_true rfl, Nat.le_of_ble_eq_true rfl⟩) hD hS hA (fun hzo4 H locs hP hD hS => ?_)
        have hP : va_P D vwCl (mdW K q vweight vkind x2_rhymes vpurse vhas vwishes vwishMany vsightLeft vsightRight vsightHow vsights vpad vpadMany vact vwho vwhich vwhom vacts vplace vopenMany vended vspoken vheaviest vheaviestWeight vhad vbadAct vbadWhy vbrings vbringsThen o4.2.1 visKept o4.2.2 visWriting) H := hP
        have hD : va_D A (mdW K q vweight vkind x2_rhymes vpurse vhas vwishes vwishMany vsightLeft vsightRight vsightHow vsights vpad vpadMany vact vwho vwhich vwhom vacts vplace vopenMany vended vspoken vheaviest vheaviestWeight vhad vbadAct vbadWhy vbrings vbringsThen o4.2.1 visKept o4.2.2 visWriting) := hD
        refine va_iast (D := D) (f := x2_rhymes) hx hb hK hP hD hS 3 0 rfl rfl v3 dX5_passRow_16 (fun H locs hP hD hS => ?_)
        have hP : va_P D vwCl (mdW K q vweight vkind (upd x2_rhymes (x2_l3).toNatClampNeg o4.1) vpurse vhas vwishes vwishMany vsightLeft vsightRight vsightHow vsights vpad vpadMany vact vwho vwhich vwhom vacts vplace vopenMany vended vspoken vheaviest vheaviestWeight vhad vbadAct vbadWhy vbrings vbringsThen o4.2.1 visKept o4.2.2 visWriting) H := hP
        have hD : va_D A (mdW K q vweight vkind (upd x2_rhymes (x2_l3).toNatClampNeg o4.1) vpurse vhas vwishes vwishMany vsightLeft vsightRight vsightHow vsights vpad vpadMany vact vwho vwhich vwhom vacts vplace vopenMany vended vspoken vheaviest vheaviestWeight vhad vbadAct vbadWhy vbrings vbringsThen o4.2.1 visKept o4.2.2 visWriting) := hD
        refine lv_iinc (v := (x2_l3 + 1)) (lv' := [(3, .int (x2_l3 + 1)), (0, .ref (q 0)), (1, .ref (q 3)), (2, .int p1)]) hx hb dX5_passRow_17 hl (k := 0) rfl (by rfl) (by decide) rfl (fun ls hl => ?_)
        refine lv_goto (tgt := 2) hx hb dX5_passRow_20 (by decide) ?_
        obtain rfl := Option.some.inj hs2
        exact ih2 _ _ _ _ _ _ _ hw2 hP hD hS (lv_sub hl [0, 1, 2, 3] rfl)
  exact lp2 5000 _ _ _ _ _ _ _ hr1 hP hD hS (lv_sub hl [0, 1, 2, 3] rfl)
def s_X5_passRow_purse_2 (visWriting : Int32) (p1 : Int32) (x : Int32 × (Nat → Int32) × Int32 × (Nat → Int32)) : Option ((Int32 × (Nat → Int32) × Int32 × (Nat → Int32)) ⊕ (Int32 × (Nat → Int32) × Int32 × (Nat → Int32))) := if p1 ≤ x.1 then (some (.inr (x.1, x.2.1, x.2.2.1, x.2.2.2))) else (chk x.1 4 (ob (f_X5_pass x.2.1 x.2.2.1 visWriting (x.2.2.2 (x.1).toNatClampNeg)) (fun o4 => some (.inl ((x.1 + 1), o4.2.1, o4.2.2, (upd x.2.2.2 (x.1).toNatClampNeg o4.1))))))
def f_X5_passRow_purse (vpurse : Nat → Int32) (vkept : Nat → Int32) (vkeptAt : Int32) (visWriting : Int32) (p1 : Int32) : Option ((Nat → Int32) × (Nat → Int32) × Int32) := ob (wh (s_X5_passRow_purse_2 visWriting p1) 5000 (0, vkept, vkeptAt, vpurse)) (fun r1 => some (r1.2.2.2, r1.2.1, r1.2.2.1))
set_option maxHeartbeats 4000000 in
set_option maxRecDepth 100000 in
theorem k_X5_passRow_purse (l : Launch) (D : va_G) (K : Nat → ClassId) (q : Nat → Nat) (vweight : Nat → Int32) (vkind : Nat → Int32) (vrhymes : Nat → Int32) (vpurse : Nat → Int32) (vhas : Nat → Int32) (vwishes : Nat → Int32) (vwishMany : Int32) (vsightLeft : Nat → Int32) (vsightRight : Nat → Int32) (vsightHow : Nat → Int32) (vsights : Int32) (vpad : Nat → Int32) (vpadMany : Int32) (vact : Nat → Int32) (vwho : Nat → Int32) (vwhich : Nat → Int32) (vwhom : Nat → Int32) (vacts : Int32) (vplace : Int32) (vopenMany : Int32) (vended : Int32) (vspoken : Int32) (vheaviest : Int32) (vheaviestWeight : Int32) (vhad : Nat → Int32) (vbadAct : Int32) (vbadWhy : Int32) (vbrings : Nat → Int64) (vbringsThen : Nat → Int64) (vkept : Nat → Int32) (visKept : Nat → Int32) (vkeptAt : Int32) (visWriting : Int32) (p1 : Int32) (out : (Nat → Int32) × (Nat → Int32) × Int32) (hf : f_X5_passRow_purse vpurse vkept vkeptAt visWriting p1 = some out) : kV l D K yX5_passRow wsX5_passRow rmX5_passRow [.ref (q 0), .ref (q 4), .int p1] (mdW K q vweight vkind vrhymes vpurse vhas vwishes vwishMany vsightLeft vsightRight vsightHow vsights vpad vpadMany vact vwho vwhich vwhom vacts vplace vopenMany vended vspoken vheaviest vheaviestWeight vhad vbadAct vbadWhy vbrings vbringsThen vkept visKept vkeptAt visWriting) (mdW K q vweight vkind vrhymes out.1 vhas vwishes vwishMany vsightLeft vsightRight vsightHow vsights vpad vpadMany vact vwho vwhich vwhom vacts vplace vopenMany vended vspoken vheaviest vheaviestWeight vhad vbadAct vbadWhy vbrings vbringsThen out.2.1 visKept out.2.2 visWriting) := by
  refine kV.of (cc := cX5_passRow) (maxL := 4) (by decide) rfl (Nat.le_of_ble_eq_true rfl) ?_
  intro p e s m args below meth c A H0 Q ls hx hb hml hown hts hK hN hA hP hD hS hl hret
  have hown : s.vm.findClass RX5 = some m.cls := hown
  have hl : lv_has ls 4 [(0, .ref (q 0)), (1, .ref (q 4)), (2, .int p1)] := hl
  generalize hH : H0 = H at hP ⊢
  have hS : va_S A H0 H [] := by rw [← hH]; exact hS
  clear hH
  unfold f_X5_passRow_purse at hf
  refine lv_iconst (v := 0) hx hb dX5_passRow_0 (by decide) ?_
  refine lv_istore_n (lv' := [(3, .int 0), (0, .ref (q 0)), (1, .ref (q 4)), (2, .int p1)]) hx hb dX5_passRow_1 rfl hl (by decide) rfl (fun ls hl => ?_)
  obtain ⟨r1, hr1, hf⟩ := ob_el hf
  have post2 : ∀ (e2_l3 : Int32) (e2_kept : Nat → Int32) (e2_keptAt : Int32) (e2_purse : Nat → Int32) (H : Heap) (locs : List Loc) (ls : Array Slot), (some (e2_purse, e2_kept, e2_keptAt)) = some out → va_P D vwCl (mdW K q vweight vkind vrhymes e2_purse vhas vwishes vwishMany vsightLeft vsightRight vsightHow vsights vpad vpadMany vact vwho vwhich vwhom vacts vplace vopenMany vended vspoken vheaviest vheaviestWeight vhad vbadAct vbadWhy vbrings vbringsThen e2_kept visKept e2_keptAt visWriting) H → va_D A (mdW K q vweight vkind vrhymes e2_purse vhas vwishes vwishMany vsightLeft vsightRight vsightHow vsights vpad vpadMany vact vwho vwhich vwhom vacts vplace vopenMany vended vspoken vheaviest vheaviestWeight vhad vbadAct vbadWhy vbrings vbringsThen e2_kept visKept e2_keptAt visWriting) → va_S A H0 H locs → lv_has ls 4 [(3, .int e2_l3), (0, .ref (q 0)), (1, .ref (q 4)), (2, .int p1)] → W p l e rmX5_passRow s m args below meth c H locs 0 0 Q (F0 m 23 ls []) := by
    intro e2_l3 e2_kept e2_keptAt e2_purse H locs ls hf hP hD hS hl
    obtain rfl := Option.some.inj hf
    exact hret rfl hP hD hS dX5_passRow_23
  have lp2 : ∀ (fu : Nat) (x2_l3 : Int32) (x2_kept : Nat → Int32) (x2_keptAt : Int32) (x2_purse : Nat → Int32) (H : Heap) (locs : List Loc) (ls : Array Slot), wh (s_X5_passRow_purse_2 visWriting p1) fu (x2_l3, x2_kept, x2_keptAt, x2_purse) = some r1 → va_P D vwCl (mdW K q vweight vkind vrhymes x2_purse vhas vwishes vwishMany vsightLeft vsightRight vsightHow vsights vpad vpadMany vact vwho vwhich vwhom vacts vplace vopenMany vended vspoken vheaviest vheaviestWeight vhad vbadAct vbadWhy vbrings vbringsThen x2_kept visKept x2_keptAt visWriting) H → va_D A (mdW K q vweight vkind vrhymes x2_purse vhas vwishes vwishMany vsightLeft vsightRight vsightHow vsights vpad vpadMany vact vwho vwhich vwhom vacts vplace vopenMany vended vspoken vheaviest vheaviestWeight vhad vbadAct vbadWhy vbrings vbringsThen x2_kept visKept x2_keptAt visWriting) → va_S A H0 H locs → lv_has ls 4 [(3, .int x2_l3), (0, .ref (q 0)), (1, .ref (q 4)), (2, .int p1)] → W p l e rmX5_passRow s m args below meth c H locs 0 0 Q (F0 m 2 ls []) := by
    intro fu
    induction fu with
    | zero => intro x2_l3 x2_kept x2_keptAt x2_purse H locs ls hw2; cases hw2
    | succ fu ih2 =>
      intro x2_l3 x2_kept x2_keptAt x2_purse H locs ls hw2 hP hD hS hl
      obtain ⟨o2_, hs2, hw2⟩ := wh_el hw2
      unfold s_X5_passRow_purse_2 at hs2
      dsimp only at hs2
      refine lv_iload_n hx hb dX5_passRow_2 rfl (lv_at hl 0 rfl) ?_
      refine lv_iload_n hx hb dX5_passRow_3 rfl (lv_at hl 3 rfl) ?_
      refine lv_icmp_ge (tgt := 23) hx hb dX5_passRow_4 (by decide) (fun c2 => ?_) (fun c2 => ?_)
      · rw [if_pos c2] at hs2
        obtain rfl := Option.some.inj hs2
        have e9 := Option.some.inj hw2
        rw [← e9] at hf
        exact post2 _ _ _ _ _ _ _ hf hP hD hS (lv_sub hl [0, 1, 2, 3] rfl)
      · rw [if_neg c2] at hs2
        refine lv_aload_n hx hb dX5_passRow_7 rfl (lv_at hl 2 rfl) ?_
        refine lv_iload_n hx hb dX5_passRow_8 rfl (lv_at hl 0 rfl) ?_
        refine lv_aload_n hx hb dX5_passRow_9 rfl (lv_at hl 1 rfl) ?_
        refine lv_aload_n hx hb dX5_passRow_10 rfl (lv_at hl 2 rfl) ?_
        refine lv_iload_n hx hb dX5_passRow_11 rfl (lv_at hl 0 rfl) ?_
        obtain ⟨v3, hs2⟩ := chk_el hs2
        refine va_iald (D := D) (f := x2_purse) hx hb hK hP 4 0 rfl rfl v3 dX5_passRow_12 ?_
        obtain ⟨o4, ho4, hs2⟩ := ob_el hs2
        refine kcw_i (D := D) (va_runV (As := [.int (x2_purse (x2_l3).toNatClampNeg)]) (rest := [.int x2_l3, .ref (q 4)]) ⟨hx, hb, hml, hown, hts⟩ ((k_X5_pass l D K q vweight vkind vrhymes x2_purse vhas vwishes vwishMany vsightLeft vsightRight vsightHow vsights vpad vpadMany vact vwho vwhich vwhom vacts vplace vopenMany vended vspoken vheaviest vheaviestWeight vhad vbadAct vbadWhy vbrings vbringsThen x2_kept visKept x2_keptAt visWriting (x2_purse (x2_l3).toNatClampNeg) o4 ho4) H.size) (cwV 1 hts gX5_passRow_X5_pass rfl rfl rfl ⟨rfl, yd_X5_pass⟩ ⟨Nat.le_of_ble_eq_true rfl, Nat.le_of_ble_eq_true rfl⟩) (kPreV (ci := 5) (q0 := 0) hP rfl rfl hP hD hK hN) rfl rfl hl.1 rfl (lv_room (Nat.le_of_ble_eq_true rfl)) dX5_passRow_13 ⟨Nat.le_of_ble_eq_true rfl, Nat.le_of_ble_eq_true rfl⟩) hD hS hA (fun hzo4 H locs hP hD hS => ?_)
        have hP : va_P D vwCl (mdW K q vweight vkind vrhymes x2_purse vhas vwishes vwishMany vsightLeft vsightRight vsightHow vsights vpad vpadMany vact vwho vwhich vwhom vacts vplace vopenMany vended vspoken vheaviest vheaviestWeight vhad vbadAct vbadWhy vbrings vbringsThen o4.2.1 visKept o4.2.2 visWriting) H := hP
        have hD : va_D A (mdW K q vweight vkind vrhymes x2_purse vhas vwishes vwishMany vsightLeft vsightRight vsightHow vsights vpad vpadMany vact vwho vwhich vwhom vacts vplace vopenMany vended vspoken vheaviest vheaviestWeight vhad vbadAct vbadWhy vbrings vbringsThen o4.2.1 visKept o4.2.2 visWriting) := hD
        refine va_iast (D := D) (f := x2_purse) hx hb hK hP hD hS 4 0 rfl rfl v3 dX5_passRow_16 (fun H locs hP hD hS => ?_)
        have hP : va_P D vwCl (mdW K q vweight vkind vrhymes (upd x2_purse (x2_l3).toNatClampNeg o4.1) vhas vwishes vwishMany vsightLeft vsightRight vsightHow vsights vpad vpadMany vact vwho vwhich vwhom vacts vplace vopenMany vended vspoken vheaviest vheaviestWeight vhad vbadAct vbadWhy vbrings vbringsThen o4.2.1 visKept o4.2.2 visWriting) H := hP
        have hD : va_D A (mdW K q vweight vkind vrhymes (upd x2_purse (x2_l3).toNatClampNeg o4.1) vhas vwishes vwishMany vsightLeft vsightRight vsightHow vsights vpad vpadMany vact vwho vwhich vwhom vacts vplace vopenMany vended vspoken vheaviest vheaviestWeight vhad vbadAct vbadWhy vbrings vbringsThen o4.2.1 visKept o4.2.2 visWriting) := hD
        refine lv_iinc (v := (x2_l3 + 1)) (lv' := [(3, .int (x2_l3 + 1)), (0, .ref (q 0)), (1, .ref (q 4)), (2, .int p1)]) hx hb dX5_passRow_17 hl (k := 0) rfl (by rfl) (by decide) rfl (fun ls hl => ?_)
        refine lv_goto (tgt := 2) hx hb dX5_passRow_20 (by decide) ?_
        obtain rfl := Option.some.inj hs2
        exact ih2 _ _ _ _ _ _ _ hw2 hP hD hS (lv_sub hl [0, 1, 2, 3] rfl)
  exact lp2 5000 _ _ _ _ _ _ _ hr1 hP hD hS (lv_sub hl [0, 1, 2, 3] rfl)
def s_X5_passRow_has_2 (visWriting : Int32) (p1 : Int32) (x : Int32 × (Nat → Int32) × (Nat → Int32) × Int32) : Option ((Int32 × (Nat → Int32) × (Nat → Int32) × Int32) ⊕ (Int32 × (Nat → Int32) × (Nat → Int32) × Int32)) := if p1 ≤ x.1 then (some (.inr (x.1, x.2.1, x.2.2.1, x.2.2.2))) else (chk x.1 4 (ob (f_X5_pass x.2.2.1 x.2.2.2 visWriting (x.2.1 (x.1).toNatClampNeg)) (fun o4 => some (.inl ((x.1 + 1), (upd x.2.1 (x.1).toNatClampNeg o4.1), o4.2.1, o4.2.2)))))
def f_X5_passRow_has (vhas : Nat → Int32) (vkept : Nat → Int32) (vkeptAt : Int32) (visWriting : Int32) (p1 : Int32) : Option ((Nat → Int32) × (Nat → Int32) × Int32) := ob (wh (s_X5_passRow_has_2 visWriting p1) 5000 (0, vhas, vkept, vkeptAt)) (fun r1 => some (r1.2.1, r1.2.2.1, r1.2.2.2))
set_option maxHeartbeats 4000000 in
set_option maxRecDepth 100000 in
theorem k_X5_passRow_has (l : Launch) (D : va_G) (K : Nat → ClassId) (q : Nat → Nat) (vweight : Nat → Int32) (vkind : Nat → Int32) (vrhymes : Nat → Int32) (vpurse : Nat → Int32) (vhas : Nat → Int32) (vwishes : Nat → Int32) (vwishMany : Int32) (vsightLeft : Nat → Int32) (vsightRight : Nat → Int32) (vsightHow : Nat → Int32) (vsights : Int32) (vpad : Nat → Int32) (vpadMany : Int32) (vact : Nat → Int32) (vwho : Nat → Int32) (vwhich : Nat → Int32) (vwhom : Nat → Int32) (vacts : Int32) (vplace : Int32) (vopenMany : Int32) (vended : Int32) (vspoken : Int32) (vheaviest : Int32) (vheaviestWeight : Int32) (vhad : Nat → Int32) (vbadAct : Int32) (vbadWhy : Int32) (vbrings : Nat → Int64) (vbringsThen : Nat → Int64) (vkept : Nat → Int32) (visKept : Nat → Int32) (vkeptAt : Int32) (visWriting : Int32) (p1 : Int32) (out : (Nat → Int32) × (Nat → Int32) × Int32) (hf : f_X5_passRow_has vhas vkept vkeptAt visWriting p1 = some out) : kV l D K yX5_passRow wsX5_passRow rmX5_passRow [.ref (q 0), .ref (q 5), .int p1] (mdW K q vweight vkind vrhymes vpurse vhas vwishes vwishMany vsightLeft vsightRight vsightHow vsights vpad vpadMany vact vwho vwhich vwhom vacts vplace vopenMany vended vspoken vheaviest vheaviestWeight vhad vbadAct vbadWhy vbrings vbringsThen vkept visKept vkeptAt visWriting) (mdW K q vweight vkind vrhymes vpurse out.1 vwishes vwishMany vsightLeft vsightRight vsightHow vsights vpad vpadMany vact vwho vwhich vwhom vacts vplace vopenMany vended vspoken vheaviest vheaviestWeight vhad vbadAct vbadWhy vbrings vbringsThen out.2.1 visKept out.2.2 visWriting) := by
  refine kV.of (cc := cX5_passRow) (maxL := 4) (by decide) rfl (Nat.le_of_ble_eq_true rfl) ?_
  intro p e s m args below meth c A H0 Q ls hx hb hml hown hts hK hN hA hP hD hS hl hret
  have hown : s.vm.findClass RX5 = some m.cls := hown
  have hl : lv_has ls 4 [(0, .ref (q 0)), (1, .ref (q 5)), (2, .int p1)] := hl
  generalize hH : H0 = H at hP ⊢
  have hS : va_S A H0 H [] := by rw [← hH]; exact hS
  clear hH
  unfold f_X5_passRow_has at hf
  refine lv_iconst (v := 0) hx hb dX5_passRow_0 (by decide) ?_
  refine lv_istore_n (lv' := [(3, .int 0), (0, .ref (q 0)), (1, .ref (q 5)), (2, .int p1)]) hx hb dX5_passRow_1 rfl hl (by decide) rfl (fun ls hl => ?_)
  obtain ⟨r1, hr1, hf⟩ := ob_el hf
  have post2 : ∀ (e2_l3 : Int32) (e2_has : Nat → Int32) (e2_kept : Nat → Int32) (e2_keptAt : Int32) (H : Heap) (locs : List Loc) (ls : Array Slot), (some (e2_has, e2_kept, e2_keptAt)) = some out → va_P D vwCl (mdW K q vweight vkind vrhymes vpurse e2_has vwishes vwishMany vsightLeft vsightRight vsightHow vsights vpad vpadMany vact vwho vwhich vwhom vacts vplace vopenMany vended vspoken vheaviest vheaviestWeight vhad vbadAct vbadWhy vbrings vbringsThen e2_kept visKept e2_keptAt visWriting) H → va_D A (mdW K q vweight vkind vrhymes vpurse e2_has vwishes vwishMany vsightLeft vsightRight vsightHow vsights vpad vpadMany vact vwho vwhich vwhom vacts vplace vopenMany vended vspoken vheaviest vheaviestWeight vhad vbadAct vbadWhy vbrings vbringsThen e2_kept visKept e2_keptAt visWriting) → va_S A H0 H locs → lv_has ls 4 [(3, .int e2_l3), (0, .ref (q 0)), (1, .ref (q 5)), (2, .int p1)] → W p l e rmX5_passRow s m args below meth c H locs 0 0 Q (F0 m 23 ls []) := by
    intro e2_l3 e2_has e2_kept e2_keptAt H locs ls hf hP hD hS hl
    obtain rfl := Option.some.inj hf
    exact hret rfl hP hD hS dX5_passRow_23
  have lp2 : ∀ (fu : Nat) (x2_l3 : Int32) (x2_has : Nat → Int32) (x2_kept : Nat → Int32) (x2_keptAt : Int32) (H : Heap) (locs : List Loc) (ls : Array Slot), wh (s_X5_passRow_has_2 visWriting p1) fu (x2_l3, x2_has, x2_kept, x2_keptAt) = some r1 → va_P D vwCl (mdW K q vweight vkind vrhymes vpurse x2_has vwishes vwishMany vsightLeft vsightRight vsightHow vsights vpad vpadMany vact vwho vwhich vwhom vacts vplace vopenMany vended vspoken vheaviest vheaviestWeight vhad vbadAct vbadWhy vbrings vbringsThen x2_kept visKept x2_keptAt visWriting) H → va_D A (mdW K q vweight vkind vrhymes vpurse x2_has vwishes vwishMany vsightLeft vsightRight vsightHow vsights vpad vpadMany vact vwho vwhich vwhom vacts vplace vopenMany vended vspoken vheaviest vheaviestWeight vhad vbadAct vbadWhy vbrings vbringsThen x2_kept visKept x2_keptAt visWriting) → va_S A H0 H locs → lv_has ls 4 [(3, .int x2_l3), (0, .ref (q 0)), (1, .ref (q 5)), (2, .int p1)] → W p l e rmX5_passRow s m args below meth c H locs 0 0 Q (F0 m 2 ls []) := by
    intro fu
    induction fu with
    | zero => intro x2_l3 x2_has x2_kept x2_keptAt H locs ls hw2; cases hw2
    | succ fu ih2 =>
      intro x2_l3 x2_has x2_kept x2_keptAt H locs ls hw2 hP hD hS hl
      obtain ⟨o2_, hs2, hw2⟩ := wh_el hw2
      unfold s_X5_passRow_has_2 at hs2
      dsimp only at hs2
      refine lv_iload_n hx hb dX5_passRow_2 rfl (lv_at hl 0 rfl) ?_
      refine lv_iload_n hx hb dX5_passRow_3 rfl (lv_at hl 3 rfl) ?_
      refine lv_icmp_ge (tgt := 23) hx hb dX5_passRow_4 (by decide) (fun c2 => ?_) (fun c2 => ?_)
      · rw [if_pos c2] at hs2
        obtain rfl := Option.some.inj hs2
        have e9 := Option.some.inj hw2
        rw [← e9] at hf
        exact post2 _ _ _ _ _ _ _ hf hP hD hS (lv_sub hl [0, 1, 2, 3] rfl)
      · rw [if_neg c2] at hs2
        refine lv_aload_n hx hb dX5_passRow_7 rfl (lv_at hl 2 rfl) ?_
        refine lv_iload_n hx hb dX5_passRow_8 rfl (lv_at hl 0 rfl) ?_
        refine lv_aload_n hx hb dX5_passRow_9 rfl (lv_at hl 1 rfl) ?_
        refine lv_aload_n hx hb dX5_passRow_10 rfl (lv_at hl 2 rfl) ?_
        refine lv_iload_n hx hb dX5_passRow_11 rfl (lv_at hl 0 rfl) ?_
        obtain ⟨v3, hs2⟩ := chk_el hs2
        refine va_iald (D := D) (f := x2_has) hx hb hK hP 5 0 rfl rfl v3 dX5_passRow_12 ?_
        obtain ⟨o4, ho4, hs2⟩ := ob_el hs2
        refine kcw_i (D := D) (va_runV (As := [.int (x2_has (x2_l3).toNatClampNeg)]) (rest := [.int x2_l3, .ref (q 5)]) ⟨hx, hb, hml, hown, hts⟩ ((k_X5_pass l D K q vweight vkind vrhymes vpurse x2_has vwishes vwishMany vsightLeft vsightRight vsightHow vsights vpad vpadMany vact vwho vwhich vwhom vacts vplace vopenMany vended vspoken vheaviest vheaviestWeight vhad vbadAct vbadWhy vbrings vbringsThen x2_kept visKept x2_keptAt visWriting (x2_has (x2_l3).toNatClampNeg) o4 ho4) H.size) (cwV 1 hts gX5_passRow_X5_pass rfl rfl rfl ⟨rfl, yd_X5_pass⟩ ⟨Nat.le_of_ble_eq_true rfl, Nat.le_of_ble_eq_true rfl⟩) (kPreV (ci := 5) (q0 := 0) hP rfl rfl hP hD hK hN) rfl rfl hl.1 rfl (lv_room (Nat.le_of_ble_eq_true rfl)) dX5_passRow_13 ⟨Nat.le_of_ble_eq_true rfl, Nat.le_of_ble_eq_true rfl⟩) hD hS hA (fun hzo4 H locs hP hD hS => ?_)
        have hP : va_P D vwCl (mdW K q vweight vkind vrhymes vpurse x2_has vwishes vwishMany vsightLeft vsightRight vsightHow vsights vpad vpadMany vact vwho vwhich vwhom vacts vplace vopenMany vended vspoken vheaviest vheaviestWeight vhad vbadAct vbadWhy vbrings vbringsThen o4.2.1 visKept o4.2.2 visWriting) H := hP
        have hD : va_D A (mdW K q vweight vkind vrhymes vpurse x2_has vwishes vwishMany vsightLeft vsightRight vsightHow vsights vpad vpadMany vact vwho vwhich vwhom vacts vplace vopenMany vended vspoken vheaviest vheaviestWeight vhad vbadAct vbadWhy vbrings vbringsThen o4.2.1 visKept o4.2.2 visWriting) := hD
        refine va_iast (D := D) (f := x2_has) hx hb hK hP hD hS 5 0 rfl rfl v3 dX5_passRow_16 (fun H locs hP hD hS => ?_)
        have hP : va_P D vwCl (mdW K q vweight vkind vrhymes vpurse (upd x2_has (x2_l3).toNatClampNeg o4.1) vwishes vwishMany vsightLeft vsightRight vsightHow vsights vpad vpadMany vact vwho vwhich vwhom vacts vplace vopenMany vended vspoken vheaviest vheaviestWeight vhad vbadAct vbadWhy vbrings vbringsThen o4.2.1 visKept o4.2.2 visWriting) H := hP
        have hD : va_D A (mdW K q vweight vkind vrhymes vpurse (upd x2_has (x2_l3).toNatClampNeg o4.1) vwishes vwishMany vsightLeft vsightRight vsightHow vsights vpad vpadMany vact vwho vwhich vwhom vacts vplace vopenMany vended vspoken vheaviest vheaviestWeight vhad vbadAct vbadWhy vbrings vbringsThen o4.2.1 visKept o4.2.2 visWriting) := hD
        refine lv_iinc (v := (x2_l3 + 1)) (lv' := [(3, .int (x2_l3 + 1)), (0, .ref (q 0)), (1, .ref (q 5)), (2, .int p1)]) hx hb dX5_passRow_17 hl (k := 0) rfl (by rfl) (by decide) rfl (fun ls hl => ?_)
        refine lv_goto (tgt := 2) hx hb dX5_passRow_20 (by decide) ?_
        obtain rfl := Option.some.inj hs2
        exact ih2 _ _ _ _ _ _ _ hw2 hP hD hS (lv_sub hl [0, 1, 2, 3] rfl)
  exact lp2 5000 _ _ _ _ _ _ _ hr1 hP hD hS (lv_sub hl [0, 1, 2, 3] rfl)
