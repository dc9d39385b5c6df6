def s_X5_passRow_wishes_2 (visWriting : Int32) (p1 : Int32) (x : Int32 × (Nat → Int32) × Int32 × (Nat → Int32)) : Option ((Int32 × (Nat → Int32) × Int32 × (Nat → Int32)) ⊕ (Int32 × (Nat → Int32) × Int32 × (Nat → Int32))) := if p1 ≤ x.1 then (some (.inr (x.1, x.2.1, x.2.2.1, x.2.2.2))) else (chk x.1 8 (ob (f_X5_pass x.2.1 x.2.2.1 visWriting (x.2.2.2 (x.1).toNatClampNeg)) (fun o4 => some (.inl ((x.1 + 1), o4.2.1, o4.2.2, (upd x.2.2.2 (x.1).toNatClampNeg o4.1))))))
def f_X5_passRow_wishes (vwishes : Nat → Int32) (vkept : Nat → Int32) (vkeptAt : Int32) (visWriting : Int32) (p1 : Int32) : Option ((Nat → Int32) × (Nat → Int32) × Int32) := ob (wh (s_X5_passRow_wishes_2 visWriting p1) 5000 (0, vkept, vkeptAt, vwishes)) (fun r1 => some (r1.2.2.2, r1.2.1, r1.2.2.1))
set_option maxHeartbeats 4000000 in
set_option maxRecDepth 100000 in
theorem k_X5_passRow_wishes (l : Launch) (D : va_G) (K : Nat → ClassId) (q : Nat → Nat) (vweight : Nat → Int32) (vkind : Nat → Int32) (vrhymes : Nat → Int32) (vpurse : Nat → Int32) (vhas : Nat → Int32) (vwishes : Nat → Int32) (vwishMany : Int32) (vsightLeft : Nat → Int32) (vsightRight : Nat → Int32) (vsightHow : Nat → Int32) (vsights : Int32) (vpad : Nat → Int32) (vpadMany : Int32) (vact : Nat → Int32) (vwho : Nat → Int32) (vwhich : Nat → Int32) (vwhom : Nat → Int32) (vacts : Int32) (vplace : Int32) (vopenMany : Int32) (vended : Int32) (vspoken : Int32) (vheaviest : Int32) (vheaviestWeight : Int32) (vhad : Nat → Int32) (vbadAct : Int32) (vbadWhy : Int32) (vbrings : Nat → Int64) (vbringsThen : Nat → Int64) (vkept : Nat → Int32) (visKept : Nat → Int32) (vkeptAt : Int32) (visWriting : Int32) (p1 : Int32) (out : (Nat → Int32) × (Nat → Int32) × Int32) (hf : f_X5_passRow_wishes vwishes vkept vkeptAt visWriting p1 = some out) : kV l D K yX5_passRow wsX5_passRow rmX5_passRow [.ref (q 0), .ref (q 6), .int p1] (mdW K q vweight vkind vrhymes vpurse vhas vwishes vwishMany vsightLeft vsightRight vsightHow vsights vpad vpadMany vact vwho vwhich vwhom vacts vplace vopenMany vended vspoken vheaviest vheaviestWeight vhad vbadAct vbadWhy vbrings vbringsThen vkept visKept vkeptAt visWriting) (mdW K q vweight vkind vrhymes vpurse vhas out.1 vwishMany vsightLeft vsightRight vsightHow vsights vpad vpadMany vact vwho vwhich vwhom vacts vplace vopenMany vended vspoken vheaviest vheaviestWeight vhad vbadAct vbadWhy vbrings vbringsThen out.2.1 visKept out.2.2 visWriting) := by
  refine kV.of (cc := cX5_passRow) (maxL := 4) (by decide) rfl (Nat.le_of_ble_eq_true rfl) ?_
  intro p e s m args below meth c A H0 Q ls hx hb hml hown hts hK hN hA hP hD hS hl hret
  have hown : s.vm.findClass RX5 = some m.cls := hown
  have hl : lv_has ls 4 [(0, .ref (q 0)), (1, .ref (q 6)), (2, .int p1)] := hl
  generalize hH : H0 = H at hP ⊢
  have hS : va_S A H0 H [] := by rw [← hH]; exact hS
  clear hH
  unfold f_X5_passRow_wishes at hf
  refine lv_iconst (v := 0) hx hb dX5_passRow_0 (by decide) ?_
  refine lv_istore_n (lv' := [(3, .int 0), (0, .ref (q 0)), (1, .ref (q 6)), (2, .int p1)]) hx hb dX5_passRow_1 rfl hl (by decide) rfl (fun ls hl => ?_)
  obtain ⟨r1, hr1, hf⟩ := ob_el hf
  have post2 : ∀ (e2_l3 : Int32) (e2_kept : Nat → Int32) (e2_keptAt : Int32) (e2_wishes : Nat → Int32) (H : Heap) (locs : List Loc) (ls : Array Slot), (some (e2_wishes, e2_kept, e2_keptAt)) = some out → va_P D vwCl (mdW K q vweight vkind vrhymes vpurse vhas e2_wishes vwishMany vsightLeft vsightRight vsightHow vsights vpad vpadMany vact vwho vwhich vwhom vacts vplace vopenMany vended vspoken vheaviest vheaviestWeight vhad vbadAct vbadWhy vbrings vbringsThen e2_kept visKept e2_keptAt visWriting) H → va_D A (mdW K q vweight vkind vrhymes vpurse vhas e2_wishes vwishMany vsightLeft vsightRight vsightHow vsights vpad vpadMany vact vwho vwhich vwhom vacts vplace vopenMany vended vspoken vheaviest vheaviestWeight vhad vbadAct vbadWhy vbrings vbringsThen e2_kept visKept e2_keptAt visWriting) → va_S A H0 H locs → lv_has ls 4 [(3, .int e2_l3), (0, .ref (q 0)), (1, .ref (q 6)), (2, .int p1)] → W p l e rmX5_passRow s m args below meth c H locs 0 0 Q (F0 m 23 ls []) := by
    intro e2_l3 e2_kept e2_keptAt e2_wishes H locs ls hf hP hD hS hl
    obtain rfl := Option.some.inj hf
    exact hret rfl hP hD hS dX5_passRow_23
  have lp2 : ∀ (fu : Nat) (x2_l3 : Int32) (x2_kept : Nat → Int32) (x2_keptAt : Int32) (x2_wishes : Nat → Int32) (H : Heap) (locs : List Loc) (ls : Array Slot), wh (s_X5_passRow_wishes_2 visWriting p1) fu (x2_l3, x2_kept, x2_keptAt, x2_wishes) = some r1 → va_P D vwCl (mdW K q vweight vkind vrhymes vpurse vhas x2_wishes vwishMany vsightLeft vsightRight vsightHow vsights vpad vpadMany vact vwho vwhich vwhom vacts vplace vopenMany vended vspoken vheaviest vheaviestWeight vhad vbadAct vbadWhy vbrings vbringsThen x2_kept visKept x2_keptAt visWriting) H → va_D A (mdW K q vweight vkind vrhymes vpurse vhas x2_wishes vwishMany vsightLeft vsightRight vsightHow vsights vpad vpadMany vact vwho vwhich vwhom vacts vplace vopenMany vended vspoken vheaviest vheaviestWeight vhad vbadAct vbadWhy vbrings vbringsThen x2_kept visKept x2_keptAt visWriting) → va_S A H0 H locs → lv_has ls 4 [(3, .int x2_l3), (0, .ref (q 0)), (1, .ref (q 6)), (2, .int p1)] → W p l e rmX5_passRow s m args below meth c H locs 0 0 Q (F0 m 2 ls []) := by
    intro fu
    induction fu with
    | zero => intro x2_l3 x2_kept x2_keptAt x2_wishes H locs ls hw2; cases hw2
    | succ fu ih2 =>
      intro x2_l3 x2_kept x2_keptAt x2_wishes H locs ls hw2 hP hD hS hl
      obtain ⟨o2_, hs2, hw2⟩ := wh_el hw2
      unfold s_X5_passRow_wishes_2 at hs2
      dsimp only at hs2
      refine lv_iload_n hx hb dX5_passRow_2 rfl (lv_at hl 0 rfl) ?_
      refine lv_iload_n hx hb dX5_passRow_3 rfl (lv_at hl 3 rfl) ?_
      refine lv_icmp_ge (tgt := 23) hx hb dX5_passRow_4 (by decide) (fun c2 => ?_) (fun c2 => ?_)
      · rw [if_pos c2] at hs2
        obtain rfl := Option.some.inj hs2
        have e9 := Option.some.inj hw2
        rw [← e9] at hf
        exact post2 _ _ _ _ _ _ _ hf hP hD hS (lv_sub hl [0, 1, 2, 3] rfl)
      · rw [if_neg c2] at hs2
        refine lv_aload_n hx hb dX5_passRow_7 rfl (lv_at hl 2 rfl) ?_
        refine lv_iload_n hx hb dX5_passRow_8 rfl (lv_at hl 0 rfl) ?_
        refine lv_aload_n hx hb dX5_passRow_9 rfl (lv_at hl 1 rfl) ?_
        refine lv_aload_n hx hb dX5_passRow_10 rfl (lv_at hl 2 rfl) ?_
        refine lv_iload_n hx hb dX5_passRow_11 rfl (lv_at hl 0 rfl) ?_
        obtain ⟨v3, hs2⟩ := chk_el hs2
        refine va_iald (D := D) (f := x2_wishes) hx hb hK hP 6 0 rfl rfl v3 dX5_passRow_12 ?_
        obtain ⟨o4, ho4, hs2⟩ := ob_el hs2
        refine kcw_i (D := D) (va_runV (As := [.int (x2_wishes (x2_l3).toNatClampNeg)]) (rest := [.int x2_l3, .ref (q 6)]) ⟨hx, hb, hml, hown, hts⟩ ((k_X5_pass l D K q vweight vkind vrhymes vpurse vhas x2_wishes vwishMany vsightLeft vsightRight vsightHow vsights vpad vpadMany vact vwho vwhich vwhom vacts vplace vopenMany vended vspoken vheaviest vheaviestWeight vhad vbadAct vbadWhy vbrings vbringsThen x2_kept visKept x2_keptAt visWriting (x2_wishes (x2_l3).toNatClampNeg) o4 ho4) H.size) (cwV 1 hts gX5_passRow_X5_pass rfl rfl rfl ⟨rfl, yd_X5_pass⟩ ⟨Nat.le_of_ble_eq_true rfl, Nat.le_of_ble_eq_true rfl⟩) (kPreV (ci := 5) (q0 := 0) hP rfl rfl hP hD hK hN) rfl rfl hl.1 rfl (lv_room (Nat.le_of_ble_eq_true rfl)) dX5_passRow_13 ⟨Nat.le_of_ble_eq_true rfl, Nat.le_of_ble_eq_true rfl⟩) hD hS hA (fun hzo4 H locs hP hD hS => ?_)
        have hP : va_P D vwCl (mdW K q vweight vkind vrhymes vpurse vhas x2_wishes vwishMany vsightLeft vsightRight vsightHow vsights vpad vpadMany vact vwho vwhich vwhom vacts vplace vopenMany vended vspoken vheaviest vheaviestWeight vhad vbadAct vbadWhy vbrings vbringsThen o4.2.1 visKept o4.2.2 visWriting) H := hP
        have hD : va_D A (mdW K q vweight vkind vrhymes vpurse vhas x2_wishes vwishMany vsightLeft vsightRight vsightHow vsights vpad vpadMany vact vwho vwhich vwhom vacts vplace vopenMany vended vspoken vheaviest vheaviestWeight vhad vbadAct vbadWhy vbrings vbringsThen o4.2.1 visKept o4.2.2 visWriting) := hD
        refine va_iast (D := D) (f := x2_wishes) hx hb hK hP hD hS 6 0 rfl rfl v3 dX5_passRow_16 (fun H locs hP hD hS => ?_)
        have hP : va_P D vwCl (mdW K q vweight vkind vrhymes vpurse vhas (upd x2_wishes (x2_l3).toNatClampNeg o4.1) vwishMany vsightLeft vsightRight vsightHow vsights vpad vpadMany vact vwho vwhich vwhom vacts vplace vopenMany vended vspoken vheaviest vheaviestWeight vhad vbadAct vbadWhy vbrings vbringsThen o4.2.1 visKept o4.2.2 visWriting) H := hP
        have hD : va_D A (mdW K q vweight vkind vrhymes vpurse vhas (upd x2_wishes (x2_l3).toNatClampNeg o4.1) vwishMany vsightLeft vsightRight vsightHow vsights vpad vpadMany vact vwho vwhich vwhom vacts vplace vopenMany vended vspoken vheaviest vheaviestWeight vhad vbadAct vbadWhy vbrings vbringsThen o4.2.1 visKept o4.2.2 visWriting) := hD
        refine lv_iinc (v := (x2_l3 + 1)) (lv' := [(3, .int (x2_l3 + 1)), (0, .ref (q 0)), (1, .ref (q 6)), (2, .int p1)]) hx hb dX5_passRow_17 hl (k := 0) rfl (by rfl) (by decide) rfl (fun ls hl => ?_)
        refine lv_goto (tgt := 2) hx hb dX5_passRow_20 (by decide) ?_
        obtain rfl := Option.some.inj hs2
        exact ih2 _ _ _ _ _ _ _ hw2 hP hD hS (lv_sub hl [0, 1, 2, 3] rfl)
  exact lp2 5000 _ _ _ _ _ _ _ hr1 hP hD hS (lv_sub hl [0, 1, 2, 3] rfl)
def s_X5_passRow_sightLeft_2 (visWriting : Int32) (p1 : Int32) (x : Int32 × (Nat → Int32) × Int32 × (Nat → Int32)) : Option ((Int32 × (Nat → Int32) × Int32 × (Nat → Int32)) ⊕ (Int32 × (Nat → Int32) × Int32 × (Nat → Int32))) := if p1 ≤ x.1 then (some (.inr (x.1, x.2.1, x.2.2.1, x.2.2.2))) else (chk x.1 6 (ob (f_X5_pass x.2.1 x.2.2.1 visWriting (x.2.2.2 (x.1).toNatClampNeg)) (fun o4 => some (.inl ((x.1 + 1), o4.2.1, o4.2.2, (upd x.2.2.2 (x.1).toNatClampNeg o4.1))))))
def f_X5_passRow_sightLeft (vsightLeft : Nat → Int32) (vkept : Nat → Int32) (vkeptAt : Int32) (visWriting : Int32) (p1 : Int32) : Option ((Nat → Int32) × (Nat → Int32) × Int32) := ob (wh (s_X5_passRow_sightLeft_2 visWriting p1) 5000 (0, vkept, vkeptAt, vsightLeft)) (fun r1 => some (r1.2.2.2, r1.2.1, r1.2.2.1))
set_option maxHeartbeats 4000000 in
set_option maxRecDepth 100000 in
theorem k_X5_passRow_sightLeft (l : Launch) (D : va_G) (K : Nat → ClassId) (q : Nat → Nat) (vweight : Nat → Int32) (vkind : Nat → Int32) (vrhymes : Nat → Int32) (vpurse : Nat → Int32) (vhas : Nat → Int32) (vwishes : Nat → Int32) (vwishMany : Int32) (vsightLeft : Nat → Int32) (vsightRight : Nat → Int32) (vsightHow : Nat → Int32) (vsights : Int32) (vpad : Nat → Int32) (vpadMany : Int32) (vact : Nat → Int32) (vwho : Nat → Int32) (vwhich : Nat → Int32) (vwhom : Nat → Int32) (vacts : Int32) (vplace : Int32) (vopenMany : Int32) (vended : Int32) (vspoken : Int32) (vheaviest : Int32) (vheaviestWeight : Int32) (vhad : Nat → Int32) (vbadAct : Int32) (vbadWhy : Int32) (vbrings : Nat → Int64) (vbringsThen : Nat → Int64) (vkept : Nat → Int32) (visKept : Nat → Int32) (vkeptAt : Int32) (visWriting : Int32) (p1 : Int32) (out : (Nat → Int32) × (Nat → Int32) × Int32) (hf : f_X5_passRow_sightLeft vsightLeft vkept vkeptAt visWriting p1 = some out) : kV l D K yX5_passRow wsX5_passRow rmX5_passRow [.ref (q 0), .ref (q 7), .int p1] (mdW K q vweight vkind vrhymes vpurse vhas vwishes vwishMany vsightLeft vsightRight vsightHow vsights vpad vpadMany vact vwho vwhich vwhom vacts vplace vopenMany vended vspoken vheaviest vheaviestWeight vhad vbadAct vbadWhy vbrings vbringsThen vkept visKept vkeptAt visWriting) (mdW K q vweight vkind vrhymes vpurse vhas vwishes vwishMany out.1 vsightRight vsightHow vsights vpad vpadMany vact vwho vwhich vwhom vacts vplace vopenMany vended vspoken vheaviest vheaviestWeight vhad vbadAct vbadWhy vbrings vbringsThen out.2.1 visKept out.2.2 visWriting) := by
  refine kV.of (cc := cX5_passRow) (maxL := 4) (by decide) rfl (Nat.le_of_ble_eq_true rfl) ?_
  intro p e s m args below meth c A H0 Q ls hx hb hml hown hts hK hN hA hP hD hS hl hret
  have hown : s.vm.findClass RX5 = some m.cls := hown
  have hl : lv_has ls 4 [(0, .ref (q 0)), (1, .ref (q 7)), (2, .int p1)] := hl
  generalize hH : H0 = H at hP ⊢
  have hS : va_S A H0 H [] := by rw [← hH]; exact hS
  clear hH
  unfold f_X5_passRow_sightLeft at hf
  refine lv_iconst (v := 0) hx hb dX5_passRow_0 (by decide) ?_
  refine lv_istore_n (lv' := [(3, .int 0), (0, .ref (q 0)), (1, .ref (q 7)), (2, .int p1)]) hx hb dX5_passRow_1 rfl hl (by decide) rfl (fun ls hl => ?_)
  obtain ⟨r1, hr1, hf⟩ := ob_el hf
  have post2 : ∀ (e2_l3 : Int32) (e2_kept : Nat → Int32) (e2_keptAt : Int32) (e2_sightLeft : Nat → Int32) (H : Heap) (locs : List Loc) (ls : Array Slot), (some (e2_sightLeft, e2_kept, e2_keptAt)) = some out → va_P D vwCl (mdW K q vweight vkind vrhymes vpurse vhas vwishes vwishMany e2_sightLeft vsightRight vsightHow vsights vpad vpadMany vact vwho vwhich vwhom vacts vplace vopenMany vended vspoken vheaviest vheaviestWeight vhad vbadAct vbadWhy vbrings vbringsThen e2_kept visKept e2_keptAt visWriting) H → va_D A (mdW K q vweight vkind vrhymes vpurse vhas vwishes vwishMany e2_sightLeft vsightRight vsightHow vsights vpad vpadMany vact vwho vwhich vwhom vacts vplace vopenMany vended vspoken vheaviest vheaviestWeight vhad vbadAct vbadWhy vbrings vbringsThen e2_kept visKept e2_keptAt visWriting) → va_S A H0 H locs → lv_has ls 4 [(3, .int e2_l3), (0, .ref (q 0)), (1, .ref (q 7)), (2, .int p1)] → W p l e rmX5_passRow s m args below meth c H locs 0 0 Q (F0 m 23 ls []) := by
    intro e2_l3 e2_kept e2_keptAt e2_sightLeft H locs ls hf hP hD hS hl
    obtain rfl := Option.some.inj hf
    exact hret rfl hP hD hS dX5_passRow_23
  have lp2 : ∀ (fu : Nat) (x2_l3 : Int32) (x2_kept : Nat → Int32) (x2_keptAt : Int32) (x2_sightLeft : Nat → Int32) (H : Heap) (locs : List Loc) (ls : Array Slot), wh (s_X5_passRow_sightLeft_2 visWriting p1) fu (x2_l3, x2_kept, x2_keptAt, x2_sightLeft) = some r1 → va_P D vwCl (mdW K q vweight vkind vrhymes vpurse vhas vwishes vwishMany x2_sightLeft vsightRight vsightHow vsights vpad vpadMany vact vwho vwhich vwhom vacts vplace vopenMany vended vspoken vheaviest vheaviestWeight vhad vbadAct vbadWhy vbrings vbringsThen x2_kept visKept x2_keptAt visWriting) H → va_D A (mdW K q vweight vkind vrhymes vpurse vhas vwishes vwishMany x2_sightLeft vsightRight vsightHow vsights vpad vpadMany vact vwho vwhich vwhom vacts vplace vopenMany vended vspoken vheaviest vheaviestWeight vhad vbadAct vbadWhy vbrings vbringsThen x2_kept visKept x2_keptAt visWriting) → va_S A H0 H locs → lv_has ls 4 [(3, .int x2_l3), (0, .ref (q 0)), (1, .ref (q 7)), (2, .int p1)] → W p l e rmX5_passRow s m args below meth c H locs 0 0 Q (F0 m 2 ls []) := by
    intro fu
    induction fu with
    | zero => intro x2_l3 x2_kept x2_keptAt x2_sightLeft H locs ls hw2; cases hw2
    | succ fu ih2 =>
      intro x2_l3 x2_kept x2_keptAt x2_sightLeft H locs ls hw2 hP hD hS hl
      obtain ⟨o2_, hs2, hw2⟩ := wh_el hw2
      unfold s_X5_passRow_sightLeft_2 at hs2
      dsimp only at hs2
      refine lv_iload_n hx hb dX5_passRow_2 rfl (lv_at hl 0 rfl) ?_
      refine lv_iload_n hx hb dX5_passRow_3 rfl (lv_at hl 3 rfl) ?_
      refine lv_icmp_ge (tgt := 23) hx hb dX5_passRow_4 (by decide) (fun c2 => ?_) (fun c2 => ?_)
      · rw [if_pos c2] at hs2
        obtain rfl := Option.some.inj hs2
        have e9 := Option.some.inj hw2
        rw [← e9] at hf
        exact post2 _ _ _ _ _ _ _ hf hP hD hS (lv_sub hl [0, 1, 2, 3] rfl)
      · rw [if_neg c2] at hs2
        refine lv_aload_n hx hb dX5_passRow_7 rfl (lv_at hl 2 rfl) ?_
        refine lv_iload_n hx hb dX5_passRow_8 rfl (lv_at hl 0 rfl) ?_
        refine lv_aload_n hx hb dX5_passRow_9 rfl (lv_at hl 1 rfl) ?_
        refine lv_aload_n hx hb dX5_passRow_10 rfl (lv_at hl 2 rfl) ?_
        refine lv_iload_n hx hb dX5_passRow_11 rfl (lv_at hl 0 rfl) ?_
        obtain ⟨v3, hs2⟩ := chk_el hs2
        refine va_iald (D := D) (f := x2_sightLeft) hx hb hK hP 7 0 rfl rfl v3 dX5_passRow_12 ?_
        obtain ⟨o4, ho4, hs2⟩ := ob_el hs2
        refine kcw_i (D := D) (va_runV (As := [.int (x2_sightLeft (x2_l3).toNatClampNeg)]) (rest := [.int x2_l3, .ref (q 7)]) ⟨hx, hb, hml, hown, hts⟩ ((k_X5_pass l D K q vweight vkind vrhymes vpurse vhas vwishes vwishMany x2_sightLeft vsightRight vsightHow vsights vpad vpadMany vact vwho vwhich vwhom vacts vplace vopenMany vended vspoken vheaviest vheaviestWeight vhad vbadAct vbadWhy vbrings vbringsThen x2_kept visKept x2_keptAt visWriting (x2_sightLeft (x2_l3).toNatClampNeg) o4 ho4) H.size) (cwV 1 hts gX5_passRow_X5_pass rfl rfl rfl ⟨rfl, yd_X5_pass⟩ ⟨Nat.le_of_ble_eq_true rfl, Nat.le_of_ble_eq_true rfl⟩) (kPreV (ci := 5) (q0 := 0) hP rfl rfl hP hD hK hN) rfl rfl hl.1 rfl (lv_room (Nat.le_of_ble_eq_true rfl)) dX5_passRow_13 ⟨Nat.le_of_ble_eq_true rfl, Nat.le_of_ble_eq_true rfl⟩) hD hS hA (fun hzo4 H locs hP hD hS => ?_)
        have hP : va_P D vwCl (mdW K q vweight vkind vrhymes vpurse vhas vwishes vwishMany x2_sightLeft vsightRight vsightHow vsights vpad vpadMany vact vwho vwhich vwhom vacts vplace vopenMany vended vspoken vheaviest vheaviestWeight vhad vbadAct vbadWhy vbrings vbringsThen o4.2.1 visKept o4.2.2 visWriting) H := hP
        have hD : va_D A (mdW K q vweight vkind vrhymes vpurse vhas vwishes vwishMany x2_sightLeft vsightRight vsightHow vsights vpad vpadMany vact vwho vwhich vwhom vacts vplace vopenMany vended vspoken vheaviest vheaviestWeight vhad vbadAct vbadWhy vbrings vbringsThen o4.2.1 visKept o4.2.2 visWriting) := hD
        refine va_iast (D := D) (f := x2_sightLeft) hx hb hK hP hD hS 7 0 rfl rfl v3 dX5_passRow_16 (fun H locs hP hD hS => ?_)
        have hP : va_P D vwCl (mdW K q vweight vkind vrhymes vpurse vhas vwishes vwishMany (upd x2_sightLeft (x2_l3).toNatClampNeg o4.1) vsightRight vsightHow vsights vpad vpadMany vact vwho vwhich vwhom vacts vplace vopenMany vended vspoken vheaviest vheaviestWeight vhad vbadAct vbadWhy vbrings vbringsThen o4.2.1 visKept o4.2.2 visWriting) H := hP
        have hD : va_D A (mdW K q vweight vkind vrhymes vpurse vhas vwishes vwishMany (upd x2_sightLeft (x2_l3).toNatClampNeg o4.1) vsightRight vsightHow vsights vpad vpadMany vact vwho vwhich vwhom vacts vplace vopenMany vended vspoken vheaviest vheaviestWeight vhad vbadAct vbadWhy vbrings vbringsThen o4.2.1 visKept o4.2.2 visWriting) := hD
        refine lv_iinc (v := (x2_l3 + 1)) (lv' := [(3, .int (x2_l3 + 1)), (0, .ref (q 0)), (1, .ref (q 7)), (2, .int p1)]) hx hb dX5_passRow_17 hl (k := 0) rfl (by rfl) (by decide) rfl (fun ls hl => ?_)
        refine lv_goto (tgt := 2) hx hb dX5_passRow_20 (by decide) ?_
        obtain rfl := Option.some.inj hs2
        exact ih2 _ _ _ _ _ _ _ hw2 hP hD hS (lv_sub hl [0, 1, 2, 3] rfl)
  exact lp2 5000 _ _ _ _ _ _ _ hr1 hP hD hS (lv_sub hl [0, 1, 2, 3] rfl)
def s_X5_passRow_sightRight_2 (visWriting : Int32) (p1 : Int32) (x : Int32 × (Nat → Int32) × Int32 × (Nat → Int32)) : Option ((Int32 × (Nat → Int32) × Int32 × (Nat → Int32)) ⊕ (Int32 × (Nat → Int32) × Int32 × (Nat → Int32))) := if p1 ≤ x.1 then (some (.inr (x.1, x.2.1, x.2.2.1, x.2.2.2))) else (chk x.1 6 (ob (f_X5_pass x.2.1 x.2.2.1 visWriting (x.2.2.2 (x.1).toNatClampNeg)) (fun o4 => some (.inl ((x.1 + 1), o4.2.1, o4.2.2, (upd x.2.2.2 (x.1).toNatClampNeg o4.1))))))
def f_X5_passRow_sightRight (vsightRight : Nat → Int32) (vkept : Nat → Int32) (vkeptAt : Int32) (visWriting : Int32) (p1 : Int32) : Option ((Nat → Int32) × (Nat → Int32) × Int32) := ob (wh (s_X5_passRow_sightRight_2 visWriting p1) 5000 (0, vkept, vkeptAt, vsightRight)) (fun r1 => some (r1.2.2.2, r1.2.1, r1.2.2.1))
set_option maxHeartbeats 4000000 in
set_option maxRecDepth 100000 in
theorem k_X5_passRow_sightRight (l : Launch) (D : va_G) (K : Nat → ClassId) (q : Nat → Nat) (vweight : Nat → Int32) (vkind : Nat → Int32) (vrhymes : Nat → Int32) (vpurse : Nat → Int32) (vhas : Nat → Int32) (vwishes : Nat → Int32) (vwishMany : Int32) (vsightLeft : Nat → Int32) (vsightRight : Nat → Int32) (vsightHow : Nat → Int32) (vsights : Int32) (vpad : Nat → Int32) (vpadMany : Int32) (vact : Nat → Int32) (vwho : Nat → Int32) (vwhich : Nat → Int32) (vwhom : Nat → Int32) (vacts : Int32) (vplace : Int32) (vopenMany : Int32) (vended : Int32) (vspoken : Int32) (vheaviest : Int32) (vheaviestWeight : Int32) (vhad : Nat → Int32) (vbadAct : Int32) (vbadWhy : Int32) (vbrings : Nat → Int64) (vbringsThen : Nat → Int64) (vkept : Nat → Int32) (visKept : Nat → Int32) (vkeptAt : Int32) (visWriting : Int32) (p1 : Int32) (out : (Nat → Int32) × (Nat → Int32) × Int32) (hf : f_X5_passRow_sightRight vsightRight vkept vkeptAt visWriting p1 = some out) : kV l D K yX5_passRow wsX5_passRow rmX5_passRow [.ref (q 0), .ref (q 8), .int p1] (mdW K q vweight vkind vrhymes vpurse vhas vwishes vwishMany vsightLeft vsightRight vsightHow vsights vpad vpadMany vact vwho vwhich vwhom vacts vplace vopenMany vended vspoken vheaviest vheaviestWeight vhad vbadAct vbadWhy vbrings vbringsThen vkept visKept vkeptAt visWriting) (mdW K q vweight vkind vrhymes vpurse vhas vwishes vwishMany vsightLeft out.1 vsightHow vsights vpad vpadMany vact vwho vwhich vwhom vacts vplace vopenMany vended vspoken vheaviest vheaviestWeight vhad vbadAct vbadWhy vbrings vbringsThen out.2.1 visKept out.2.2 visWriting) := by
  refine kV.of (cc := cX5_passRow) (maxL := 4) (by decide) rfl (Nat.le_of_ble_eq_true rfl) ?_
  intro p e s m args below meth c A H0 Q ls hx hb hml hown hts hK hN hA hP hD hS hl hret
  have hown : s.vm.findClass RX5 = some m.cls := hown
  have hl : lv_has ls 4 [(0, .ref (q 0)), (1, .ref (q 8)), (2, .int p1)] := hl
  generalize hH : H0 = H at hP ⊢
  have hS : va_S A H0 H [] := by rw [← hH]; exact hS
  clear hH
  unfold f_X5_passRow_sightRight at hf
  refine lv_iconst (v := 0) hx hb dX5_passRow_0 (by decide) ?_
  refine lv_istore_n (lv' := [(3, .int 0), (0, .ref (q 0)), (1, .ref (q 8)), (2, .int p1)]) hx hb dX5_passRow_1 rfl hl (by decide) rfl (fun ls hl => ?_)
  obtain ⟨r1, hr1, hf⟩ := ob_el hf
  have post2 : ∀ (e2_l3 : Int32) (e2_kept : Nat → Int32) (e2_keptAt : Int32) (e2_sightRight : Nat → Int32) (H : Heap) (locs : List Loc) (ls : Array Slot), (some (e2_sightRight, e2_kept, e2_keptAt)) = some out → va_P D vwCl (mdW K q vweight vkind vrhymes vpurse vhas vwishes vwishMany vsightLeft e2_sightRight vsightHow vsights vpad vpadMany vact vwho vwhich vwhom vacts vplace vopenMany vended vspoken vheaviest vheaviestWeight vhad vbadAct vbadWhy vbrings vbringsThen e2_kept visKept e2_keptAt visWriting) H → va_D A (mdW K q vweight vkind vrhymes vpurse vhas vwishes vwishMany vsightLeft e2_sightRight vsightHow vsights vpad vpadMany vact vwho vwhich vwhom vacts vplace vopenMany vended vspoken vheaviest vheaviestWeight vhad vbadAct vbadWhy vbrings vbringsThen e2_kept visKept e2_keptAt visWriting) → va_S A H0 H locs → lv_has ls 4 [(3, .int e2_l3), (0, .ref (q 0)), (1, .ref (q 8)), (2, .int p1)] → W p l e rmX5_passRow s m args below meth c H locs 0 0 Q (F0 m 23 ls []) := by
    intro e2_l3 e2_kept e2_keptAt e2_sightRight H locs ls hf hP hD hS hl
    obtain rfl := Option.some.inj hf
    exact hret rfl hP hD hS dX5_passRow_23
  have lp2 : ∀ (fu : Nat) (x2_l3 : Int32) (x2_kept : Nat → Int32) (x2_keptAt : Int32) (x2_sightRight : Nat → Int32) (H : Heap) (locs : List Loc) (ls : Array Slot), wh (s_X5_passRow_sightRight_2 visWriting p1) fu (x2_l3, x2_kept, x2_keptAt, x2_sightRight) = some r1 → va_P D vwCl (mdW K q vweight vkind vrhymes vpurse vhas vwishes vwishMany vsightLeft x2_sightRight vsightHow vsights vpad vpadMany vact vwho vwhich vwhom vacts vplace vopenMany vended vspoken vheaviest vheaviestWeight vhad vbadAct vbadWhy vbrings vbringsThen x2_kept visKept x2_keptAt visWriting) H → va_D A (mdW K q vweight vkind vrhymes vpurse vhas vwishes vwishMany vsightLeft x2_sightRight vsightHow vsights vpad vpadMany vact vwho vwhich vwhom vacts vplace vopenMany vended vspoken vheaviest vheaviestWeight vhad vbadAct vbadWhy vbrings vbringsThen x2_kept visKept x2_keptAt visWriting) → va_S A H0 H locs → lv_has ls 4 [(3, .int x2_l3), (0, .ref (q 0)), (1, .ref (q 8)), (2, .int p1)] → W p l e rmX5_passRow s m args below meth c H locs 0 0 Q (F0 m 2 ls []) := by
    intro fu
    induction fu with
    | zero => intro x2_l3 x2_kept x2_keptAt x2_sightRight H locs ls hw2; cases hw2
    | succ fu ih2 =>
      intro x2_l3 x2_kept x2_keptAt x2_sightRight H locs ls hw2 hP hD hS hl
      obtain ⟨o2_, hs2, hw2⟩ := wh_el hw2
      unfold s_X5_passRow_sightRight_2 at hs2
      dsimp only at hs2
      refine lv_iload_n hx hb dX5_passRow_2 rfl (lv_at hl 0 rfl) ?_
      refine lv_iload_n hx hb dX5_passRow_3 rfl (lv_at hl 3 rfl) ?_
      refine lv_icmp_ge (tgt := 23) hx hb dX5_passRow_4 (by decide) (fun c2 => ?_) (fun c2 => ?_)
      · rw [if_pos c2] at hs2
        obtain rfl := Option.some.inj hs2
        have e9 := Option.some.inj hw2
        rw [← e9] at hf
        exact post2 _ _ _ _ _ _ _ hf hP hD hS (lv_sub hl [0, 1, 2, 3] rfl)
      · rw [if_neg c2] at hs2
        refine lv_aload_n hx hb dX5_passRow_7 rfl (lv_at hl 2 rfl) ?_
        refine lv_iload_n hx hb dX5_passRow_8 rfl (lv_at hl 0 rfl) ?_
        refine lv_aload_n hx hb dX5_passRow_9 rfl (lv_at hl 1 rfl) ?_
        refine lv_aload_n hx hb dX5_passRow_10 rfl (lv_at hl 2 rfl) ?_
        refine lv_iload_n hx hb dX5_passRow_11 rfl (lv_at hl 0 rfl) ?_
        obtain ⟨v3, hs2⟩ := chk_el hs2
        refine va_iald (D := D) (f := x2_sightRight) hx hb hK hP 8 0 rfl rfl v3 dX5_passRow_12 ?_
        obtain ⟨o4, ho4, hs2⟩ := ob_el hs2
        refine kcw_i (D := D) (va_runV (As := [.int (x2_sightRight (x2_l3).toNatClampNeg)]) (rest := [.int x2_l3, .ref (q 8)]) ⟨hx, hb, hml, hown, hts⟩ ((k_X5_pass l D K q vweight vkind vrhymes vpurse vhas vwishes vwishMany vsightLeft x2_sightRight vsightHow vsights vpad vpadMany vact vwho vwhich vwhom vacts vplace vopenMany vended vspoken vheaviest vheaviestWeight vhad vbadAct vbadWhy vbrings vbringsThen x2_kept visKept x2_keptAt visWriting (x2_sightRight (x2_l3).toNatClampNeg) o4 ho4) H.size) (cwV 1 hts gX5_passRow_X5_pass rfl rfl rfl ⟨rfl, yd_X5_pass⟩ ⟨Nat.le_of_ble_eq_true rfl, Nat.le_of_ble_eq_true rfl⟩) (kPreV (ci := 5) (q0 := 0) hP rfl rfl hP hD hK hN) rfl rfl hl.1 rfl (lv_room (Nat.le_of_ble_eq_true rfl)) dX5_passRow_13 ⟨Nat.le_of_ble_eq_true rfl, Nat.le_of_ble_eq_true rfl⟩) hD hS hA (fun hzo4 H locs hP hD hS => ?_)
        have hP : va_P D vwCl (mdW K q vweight vkind vrhymes vpurse vhas vwishes vwishMany vsightLeft x2_sightRight vsightHow vsights vpad vpadMany vact vwho vwhich vwhom vacts vplace vopenMany vended vspoken vheaviest vheaviestWeight vhad vbadAct vbadWhy vbrings vbringsThen o4.2.1 visKept o4.2.2 visWriting) H := hP
        have hD : va_D A (mdW K q vweight vkind vrhymes vpurse vhas vwishes vwishMany vsightLeft x2_sightRight vsightHow vsights vpad vpadMany vact vwho vwhich vwhom vacts vplace vopenMany vended vspoken vheaviest vheaviestWeight vhad vbadAct vbadWhy vbrings vbringsThen o4.2.1 visKept o4.2.2 visWriting) := hD
        refine va_iast (D := D) (f := x2_sightRight) hx hb hK hP hD hS 8 0 rfl rfl v3 dX5_passRow_16 (fun H locs hP hD hS => ?_)
        have hP : va_P D vwCl (mdW K q vweight vkind vrhymes vpurse vhas vwishes vwishMany vsightLeft (upd x2_sightRight (x2_l3).toNatClampNeg o4.1) vsightHow vsights vpad vpadMany vact vwho vwhich vwhom vacts vplace vopenMany vended vspoken vheaviest vheaviestWeight vhad vbadAct vbadWhy vbrings vbringsThen o4.2.1 visKept o4.2.2 visWriting) H := hP
        have hD : va_D A (mdW K q vweight vkind vrhymes vpurse vhas vwishes vwishMany vsightLeft (upd x2_sightRight (x2_l3).toNatClampNeg o4.1) vsightHow vsights vpad vpadMany vact vwho vwhich vwhom vacts vplace vopenMany vended vspoken vheaviest vheaviestWeight vhad vbadAct vbadWhy vbrings vbringsThen o4.2.1 visKept o4.2.2 visWriting) := hD
        refine lv_iinc (v := (x2_l3 + 1)) (lv' := [(3, .int (x2_l3 + 1)), (0, .ref (q 0)), (1, .ref (q 8)), (2, .int p1)]) hx hb dX5_passRow_17 hl (k := 0) rfl (by rfl) (by decide) rfl (fun ls hl => ?_)
        refine lv_goto (tgt := 2) hx hb dX5_passRow_20 (by decide) ?_
        obtain rfl := Option.some.inj hs2
        exact ih2 _ _ _ _ _ _ _ hw2 hP hD hS (lv_sub hl [0, 1, 2, 3] rfl)
  exact lp2 5000 _ _ _ _ _ _ _ hr1 hP hD hS (lv_sub hl [0, 1, 2, 3] rfl)
def s_X5_passRow_sightHow_2 (visWriting : Int32) (p1 : Int32) (x : Int32 × (Nat → Int32) × Int32 × (Nat → Int32)) : Option ((Int32 × (Nat → Int32) × Int32 × (Nat → Int32)) ⊕ (Int32 × (Nat → Int32) × Int32 × (Nat → Int32))) := if p1 ≤ x.1 then (some (.inr (x.1, x.2.1, x.2.2.1, x.2.2.2))) else (chk x.1 6 (ob (f_X5_pass x.2.1 x.2.2.1 visWriting (x.2.2.2 (x.1).toNatClampNeg)) (fun o4 => some (.inl ((x.1 + 1), o4.2.1, o4.2.2, (upd x.2.2.2 (x.1).toNatClampNeg o4.1))))))
def f_X5_passRow_sightHow (vsightHow : Nat → Int32) (vkept : Nat → Int32) (vkeptAt : Int32) (visWriting : Int32) (p1 : Int32) : Option ((Nat → Int32) × (Nat → Int32) × Int32) := ob (wh (s_X5_passRow_sightHow_2 visWriting p1) 5000 (0, vkept, vkeptAt, vsightHow)) (fun r1 => some (r1.2.2.2, r1.2.1, r1.2.2.1))
set_option maxHeartbeats 4000000 in
set_option maxRecDepth 100000 in
theorem k_X5_passRow_sightHow (l : Launch) (D : va_G) (K : Nat → ClassId) (q : Nat → Nat) (vweight : Nat → Int32) (vkind : Nat → Int32) (vrhymes : Nat → Int32) (vpurse : Nat → Int32) (vhas : Nat → Int32) (vwishes : Nat → Int32) (vwishMany : Int32) (vsightLeft : Nat → Int32) (vsightRight : Nat → Int32) (vsightHow : Nat → Int32) (vsights : Int32) (vpad : Nat → Int32) (vpadMany : Int32) (vact : Nat → Int32) (vwho : Nat → Int32) (vwhich : Nat → Int32) (vwhom : Nat → Int32) (vacts : Int32) (vplace : Int32) (vopenMany : Int32) (vended : Int32) (vspoken : Int32) (vheaviest : Int32) (vheaviestWeight : Int32) (vhad : Nat → Int32) (vbadAct : Int32) (vbadWhy : Int32) (vbrings : Nat → Int64) (vbringsThen : Nat → Int64) (vkept : Nat → Int32) (visKept : Nat → Int32) (vkeptAt : Int32) (visWriting : Int32) (p1 : Int32) (out : (Nat → Int32) × (Nat → Int32) × Int32) (hf : f_X5_passRow_sightHow vsightHow vkept vkeptAt visWriting p1 = some out) : kV l D K yX5_passRow wsX5_passRow rmX5_passRow [.ref (q 0), .ref (q 9), .int p1] (mdW K q vweight vkind vrhymes vpurse vhas vwishes vwishMany vsightLeft vsightRight vsightHow vsights vpad vpadMany vact vwho vwhich vwhom vacts vplace vopenMany vended vspoken vheaviest vheaviestWeight vhad vbadAct vbadWhy vbrings vbringsThen vkept visKept vkeptAt visWriting) (mdW K q vweight vkind vrhymes vpurse vhas vwishes vwishMany vsightLeft vsightRight out.1 vsights vpad vpadMany vact vwho vwhich vwhom vacts vplace vopenMany vended vspoken vheaviest vheaviestWeight vhad vbadAct vbadWhy vbrings vbringsThen out.2.1 visKept out.2.2 visWriting) := by
  refine kV.of (cc := cX5_passRow) (maxL := 4) (by decide) rfl (Nat.le_of_ble_eq_true rfl) ?_
  intro p e s m args below meth c A H0 Q ls hx hb hml hown hts hK hN hA hP hD hS hl hret
  have hown : s.vm.findClass RX5 = some m.cls := hown
  have hl : lv_has ls 4 [(0, .ref (q 0)), (1, .ref (q 9)), (2, .int p1)] := hl
  generalize hH : H0 = H at hP ⊢
  have hS : va_S A H0 H [] := by rw [← hH]; exact hS
  clear hH
  unfold f_X5_passRow_sightHow at hf
  refine lv_iconst (v := 0) hx hb dX5_passRow_0 (by decide) ?_
  refine lv_istore_n (lv' := [(3, .int 0), (0, .ref (q 0)), (1, .ref (q 9)), (2, .int p1)]) hx hb dX5_passRow_1 rfl hl (by decide) rfl (fun ls hl => ?_)
  obtain ⟨r1, hr1, hf⟩ := ob_el hf
  have post2 : ∀ (e2_l3 : Int32) (e2_kept : Nat → Int32) (e2_keptAt : Int32) (e2_sightHow : Nat → Int32) (H : Heap) (locs : List Loc) (ls : Array Slot), (some (e2_sightHow, e2_kept, e2_keptAt)) = some out → va_P D vwCl (mdW K q vweight vkind vrhymes vpurse vhas vwishes vwishMany vsightLeft vsightRight e2_sightHow vsights vpad vpadMany vact vwho vwhich vwhom vacts vplace vopenMany vended vspoken vheaviest vheaviestWeight vhad vbadAct vbadWhy vbrings vbringsThen e2_kept visKept e2_keptAt visWriting) H → va_D A (mdW K q vweight vkind vrhymes vpurse vhas vwishes vwishMany vsightLeft vsightRight e2_sightHow vsights vpad vpadMany vact vwho vwhich vwhom vacts vplace vopenMany vended vspoken vheaviest vheaviestWeight vhad vbadAct vbadWhy vbrings vbringsThen e2_kept visKept e2_keptAt visWriting) → va_S A H0 H locs → lv_has ls 4 [(3, .int e2_l3), (0, .ref (q 0)), (1, .ref (q 9)), (2, .int p1)] → W p l e rmX5_passRow s m args below meth c H locs 0 0 Q (F0 m 23 ls []) := by
    intro e2_l3 e2_kept e2_keptAt e2_sightHow H locs ls hf hP hD hS hl
    obtain rfl := Option.some.inj hf
    exact hret rfl hP hD hS dX5_passRow_23
  have lp2 : ∀ (fu : Nat) (x2_l3 : Int32) (x2_kept : Nat → Int32) (x2_keptAt : Int32) (x2_sightHow : Nat → Int32) (H : Heap) (locs : List Loc) (ls : Array Slot), wh (s_X5_passRow_sightHow_2 visWriting p1) fu (x2_l3, x2_kept, x2_keptAt, x2_sightHow) = some r1 → va_P D vwCl (mdW K q vweight vkind vrhymes vpurse vhas vwishes vwishMany vsightLeft vsightRight x2_sightHow vsights vpad vpadMany vact vwho vwhich vwhom vacts vplace vopenMany vended vspoken vheaviest vheaviestWeight vhad vbadAct vbadWhy vbrings vbringsThen x2_kept visKept x2_keptAt visWriting) H → va_D A (mdW K q vweight vkind vrhymes vpurse vhas vwishes vwishMany vsightLeft vsightRight x2_sightHow vsights vpad vpadMany vact vwho vwhich vwhom vacts vplace vopenMany vended vspoken vheaviest vheaviestWeight vhad vbadAct vbadWhy vbrings vbringsThen x2_kept visKept x2_keptAt visWriting) → va_S A H0 H locs → lv_has ls 4 [(3, .int x2_l3), (0, .ref (q 0)), (1, .ref (q 9)), (2, .int p1)] → W p l e rmX5_passRow s m args below meth c H locs 0 0 Q (F0 m 2 ls []) := by
    intro fu
    induction fu with
    | zero => intro x2_l3 x2_kept x2_keptAt x2_sightHow H locs ls hw2; cases hw2
    | succ fu ih2 =>
      intro x2_l3 x2_kept x2_keptAt x2_sightHow H locs ls hw2 hP hD hS hl
      obtain ⟨o2_, hs2, hw2⟩ := wh_el hw2
      unfold s_X5_passRow_sightHow_2 at hs2
      dsimp only at hs2
      refine lv_iload_n hx hb dX5_passRow_2 rfl (lv_at hl 0 rfl) ?_
      refine lv_iload_n hx hb dX5_passRow_3 rfl (lv_at hl 3 rfl) ?_
      refine lv_icmp_ge (tgt := 23) hx hb dX5_passRow_4 (by decide) (fun c2 => ?_) (fun c2 => ?_)
      · rw [if_pos c2] at hs2
        obtain rfl := Option.some.inj hs2
        have e9 := Option.some.inj hw2
        rw [← e9] at hf
        exact post2 _ _ _ _ _ _ _ hf hP hD hS (lv_sub hl [0, 1, 2, 3] rfl)
      · rw [if_neg c2] at hs2
        refine lv_aload_n hx hb dX5_passRow_7 rfl (lv_at hl 2 rfl) ?_
        refine lv_iload_n hx hb dX5_passRow_8 rfl (lv_at hl 0 rfl) ?_
        refine lv_aload_n hx hb dX5_passRow_9 rfl (lv_at hl 1 rfl) ?_
        refine lv_aload_n hx hb dX5_passRow_10 rfl (lv_at hl 2 rfl) ?_
        refine lv_iload_n hx hb dX5_passRow_11 rfl (lv_at hl 0 rfl) ?_
        obtain ⟨v3, hs2⟩ := chk_el hs2
        refine va_iald (D := D) (f := x2_sightHow) hx hb hK hP 9 0 rfl rfl v3 dX5_passRow_12 ?_
        obtain ⟨o4, ho4, hs2⟩ := ob_el hs2
        refine kcw_i (D := D) (va_runV (As := [.int (x2_sightHow (x2_l3).toNatClampNeg)]) (rest := [.int x2_l3, .ref (q 9)]) ⟨hx, hb, hml, hown, hts⟩ ((k_X5_pass l D K q vweight vkind vrhymes vpurse vhas vwishes vwishMany vsightLeft vsightRight x2_sightHow vsights vpad vpadMany vact vwho vwhich vwhom vacts vplace vopenMany vended vspoken vheaviest vheaviestWeight vhad vbadAct vbadWhy vbrings vbringsThen x2_kept visKept x2_keptAt visWriting (x2_sightHow (x2_l3).toNatClampNeg) o4 ho4) H.size) (cwV 1 hts gX5_passRow_X5_pass rfl rfl rfl ⟨rfl, yd_X5_pass⟩ ⟨Nat.le_of_ble_eq_true rfl, Nat.le_of_ble_eq_true rfl⟩) (kPreV (ci := 5) (q0 := 0) hP rfl rfl hP hD hK hN) rfl rfl hl.1 rfl (lv_room (Nat.le_of_ble_eq_true rfl)) dX5_passRow_13 ⟨Nat.le_of_ble_eq_true rfl, Nat.le_of_ble_eq_true rfl⟩) hD hS hA (fun hzo4 H locs hP hD hS => ?_)
        have hP : va_P D vwCl (mdW K q vweight vkind vrhymes vpurse vhas vwishes vwishMany vsightLeft vsightRight x2_sightHow vsights vpad vpadMany vact vwho vwhich vwhom vacts vplace vopenMany vended vspoken vheaviest vheaviestWeight vhad vbadAct vbadWhy vbrings vbringsThen o4.2.1 visKept o4.2.2 visWriting) H := hP
        have hD : va_D A (mdW K q vweight vkind vrhymes vpurse vhas vwishes vwishMany vsightLeft vsightRight x2_sightHow vsights vpad vpadMany vact vwho vwhich vwhom vacts vplace vopenMany vended vspoken vheaviest vheaviestWeight vhad vbadAct vbadWhy vbrings vbringsThen o4.2.1 visKept o4.2.2 visWriting) := hD
        refine va_iast (D := D) (f := x2_sightHow) hx hb hK hP hD hS 9 0 rfl rfl v3 dX5_passRow_16 (fun H locs hP hD hS => ?_)
        have hP : va_P D vwCl (mdW K q vweight vkind vrhymes vpurse vhas vwishes vwishMany vsightLeft vsightRight (upd x2_sightHow (x2_l3).toNatClampNeg o4.1) vsights vpad vpadMany vact vwho vwhich vwhom vacts vplace vopenMany vended vspoken vheaviest vheaviestWeight vhad vbadAct vbadWhy vbrings vbringsThen o4.2.1 visKept o4.2.2 visWriting) H := hP
        have hD : va_D A (mdW K q vweight vkind vrhymes vpurse vhas vwishes vwishMany vsightLeft vsightRight (upd x2_sightHow (x2_l3).toNatClampNeg o4.1) vsights vpad vpadMany vact vwho vwhich vwhom vacts vplace vopenMany vended vspoken vheaviest vheaviestWeight vhad vbadAct vbadWhy vbrings vbringsThen o4.2.1 visKept o4.2.2 visWriting) := hD
        refine lv_iinc (v := (x2_l3 + 1)) (lv' := [(3, .int (x2_l3 + 1)), (0, .ref (q 0)), (1, .ref (q 9)), (2, .int p1)]) hx hb dX5_passRow_17 hl (k := 0) rfl (by rfl) (by decide) rfl (fun ls hl => ?_)
        refine lv_goto (tgt := 2) hx hb dX5_passRow_20 (by decide) ?_
        obtain rfl := Option.some.inj hs2
        exact ih2 _ _ _ _ _ _ _ hw2 hP hD hS (lv_sub hl [0, 1, 2, 3] rfl)
  exact lp2 5000 _ _ _ _ _ _ _ hr1 hP hD hS (lv_sub hl [0, 1, 2, 3] rfl)
def f_X5_passAll (vweight : Nat → Int32) (vkind : Nat → Int32) (vrhymes : Nat → Int32) (vpurse : Nat → Int32) (vhas : Nat → Int32) (vwishes : Nat → Int32) (vwishMany : Int32) (vsightLeft : Nat → Int32) (vsightRight : Nat → Int32) (vsightHow : Nat → Int32) (vsights : Int32) (vkept : Nat → Int32) (vkeptAt : Int32) (visWriting : Int32) : Option ((Nat → Int32) × (Nat → Int32) × (Nat → Int32) × (Nat → Int32) × (Nat → Int32) × (Nat → Int32) × Int32 × (Nat → Int32) × (Nat → Int32) × (Nat → Int32) × Int32 × (Nat → Int32) × Int32) := ob (f_X5_pass vkept vkeptAt visWriting vwishMany) (fun o1 => ob (f_X5_pass o1.2.1 o1.2.2 visWriting vsights) (fun o2 => ob (f_X5_passRow_weight vweight o2.2.1 o2.2.2 visWriting (12)) (fun o3 => ob (f_X5_passRow_kind vkind o3.2.1 o3.2.2 visWriting (12)) (fun o4 => ob (f_X5_passRow_rhymes vrhymes o4.2.1 o4.2.2 visWriting (12)) (fun o5 => ob (f_X5_passRow_purse vpurse o5.2.1 o5.2.2 visWriting (4)) (fun o6 => ob (f_X5_passRow_has vhas o6.2.1 o6.2.2 visWriting (4)) (fun o7 => ob (f_X5_passRow_wishes vwishes o7.2.1 o7.2.2 visWriting (8)) (fun o8 => ob (f_X5_passRow_sightLeft vsightLeft o8.2.1 o8.2.2 visWriting (6)) (fun o9 => ob (f_X5_passRow_sightRight vsightRight o9.2.1 o9.2.2 visWriting (6)) (fun o10 => ob (f_X5_passRow_sightHow vsightHow o10.2.1 o10.2.2 visWriting (6)) (fun o11 => some (o3.1, o4.1, o5.1, o6.1, o7.1, o8.1, o1.1, o9.1, o10.1, o11.1, o2.1, o11.2.1, o11.2.2))))))))))))
theorem inX5_passAll_X5 : ∀ w ∈ wsX50, w ∈ wsX5_passAll := fun w h => List.mem_cons_of_mem _ (List.mem_append_right _ h)
theorem yd_X5_passAll : yX5_passAll.cls ≠ "java/lang/invoke/MethodHandle" ∧ yX5_passAll.cls ≠ "java/lang/invoke/VarHandle" ∧ (parseMethodDescriptor yX5_passAll.desc).map (fun d => d.parameters.length) = some 0 := by decide +kernel
abbrev rmX5_passAll : Room := { frames := 2, cells := 0, slots := 0, locals := 45 }
set_option maxHeartbeats 4000000 in
set_option maxRecDepth 100000 in
theorem k_X5_passAll (l : Launch) (D : va_G) (K : Nat → ClassId) (q : Nat → Nat) (vweight : Nat → Int32) (vkind : Nat → Int32) (vrhymes : Nat → Int32) (vpurse : Nat → Int32) (vhas : Nat → Int32) (vwishes : Nat → Int32) (vwishMany : Int32) (vsightLeft : Nat → Int32) (vsightRight : Nat → Int32) (vsightHow : Nat → Int32) (vsights : Int32) (vpad : Nat → Int32) (vpadMany : Int32) (vact : Nat → Int32) (vwho : Nat → Int32) (vwhich : Nat → Int32) (vwhom : Nat → Int32) (vacts : Int32) (vplace : Int32) (vopenMany : Int32) (vended : Int32) (vspoken : Int32) (vheaviest : Int32) (vheaviestWeight : Int32) (vhad : Nat → Int32) (vbadAct : Int32) (vbadWhy : Int32) (vbrings : Nat → Int64) (vbringsThen : Nat → Int64) (vkept : Nat → Int32) (visKept : Nat → Int32) (vkeptAt : Int32) (visWriting : Int32) (out : (Nat → Int32) × (Nat → Int32) × (Nat → Int32) × (Nat → Int32) × (Nat → Int32) × (Nat → Int32) × Int32 × (Nat → Int32) × (Nat → Int32) × (Nat → Int32) × Int32 × (Nat → Int32) × Int32) (hf : f_X5_passAll vweight vkind vrhymes vpurse vhas vwishes vwishMany vsightLeft vsightRight vsightHow vsights vkept vkeptAt visWriting = some out) : kV l D K yX5_passAll wsX5_passAll rmX5_passAll [.ref (q 0)] (mdW K q vweight vkind vrhymes vpurse vhas vwishes vwishMany vsightLeft vsightRight vsightHow vsights vpad vpadMany vact vwho vwhich vwhom vacts vplace vopenMany vended vspoken vheaviest vheaviestWeight vhad vbadAct vbadWhy vbrings vbringsThen vkept visKept vkeptAt visWriting) (mdW K q out.1 out.2.1 out.2.2.1 out.2.2.2.1 out.2.2.2.2.1 out.2.2.2.2.2.1 out.2.2.2.2.2.2.1 out.2.2.2.2.2.2.2.1 out.2.2.2.2.2.2.2.2.1 out.2.2.2.2.2.2.2.2.2.1 out.2.2.2.2.2.2.2.2.2.2.1 vpad vpadMany vact vwho vwhich vwhom vacts vplace vopenMany vended vspoken vheaviest vheaviestWeight vhad vbadAct vbadWhy vbrings vbringsThen out.2.2.2.2.2.2.2.2.2.2.2.1 visKept out.2.2.2.2.2.2.2.2.2.2.2.2 visWriting) := by
  refine kV.of (cc := cX5_passAll) (maxL := 1) (by decide) rfl (Nat.le_of_ble_eq_true rfl) ?_
  intro p e s m args below meth c A H0 Q ls hx hb hml hown hts hK hN hA hP hD hS hl hret
  have hown : s.vm.findClass RX5 = some m.cls := hown
  have hl : lv_has ls 1 [(0, .ref (q 0))] := hl
  generalize hH : H0 = H at hP ⊢
  have hS : va_S A H0 H [] := by rw [← hH]; exact hS
  clear hH
  unfold f_X5_passAll at hf
  refine lv_aload_n hx hb dX5_passAll_0 rfl (lv_at hl 0 rfl) ?_
  refine lv_aload_n hx hb dX5_passAll_1 rfl (lv_at hl 0 rfl) ?_
  refine lv_aload_n hx hb dX5_passAll_2 rfl (lv_at hl 0 rfl) ?_
  refine va_get (D := D) (ci := 5) (v := .int vwishMany) (C := RX5) (T := TX5) (N := 33) hx hb hts inX5_passAll_X5 hown hK hP 0 rfl rfl 6 (by decide) (hts (.fieldLink RX5 218 "WordScalesModel" "wishMany" "I") (List.mem_of_getElem? (i := 1) rfl)) (fun _ h9 => h9) rfl dX5_passAll_3 ?_
  obtain ⟨o1, ho1, hf⟩ := ob_el hf
  refine kcw_i (D := D) (va_runV (As := [.int vwishMany]) (rest := [.ref (q 0)]) ⟨hx, hb, hml, hown, hts⟩ ((k_X5_pass l D K q vweight vkind vrhymes vpurse vhas vwishes vwishMany vsightLeft vsightRight vsightHow vsights vpad vpadMany vact vwho vwhich vwhom vacts vplace vopenMany vended vspoken vheaviest vheaviestWeight vhad vbadAct vbadWhy vbrings vbringsThen vkept visKept vkeptAt visWriting vwishMany o1 ho1) H.size) (cwV 1 hts gX5_passAll_X5_pass rfl rfl rfl ⟨rfl, yd_X5_pass⟩ ⟨Nat.le_of_ble_eq_true rfl, Nat.le_of_ble_eq_true rfl⟩) (kPreV (ci := 5) (q0 := 0) hP rfl rfl hP hD hK hN) rfl rfl hl.1 rfl (lv_room (Nat.le_of_ble_eq_true rfl)) dX5_passAll_6 ⟨Nat.le_of_ble_eq_true rfl, Nat.le_of_ble_eq_true rfl⟩) hD hS hA (fun hzo1 H locs hP hD hS => ?_)
  have hP : va_P D vwCl (mdW K q vweight vkind vrhymes vpurse vhas vwishes vwishMany vsightLeft vsightRight vsightHow vsights vpad vpadMany vact vwho vwhich vwhom vacts vplace vopenMany vended vspoken vheaviest vheaviestWeight vhad vbadAct vbadWhy vbrings vbringsThen o1.2.1 visKept o1.2.2 visWriting) H := hP
  have hD : va_D A (mdW K q vweight vkind vrhymes vpurse vhas vwishes vwishMany vsightLeft vsightRight vsightHow vsights vpad vpadMany vact vwho vwhich vwhom vacts vplace vopenMany vended vspoken vheaviest vheaviestWeight vhad vbadAct vbadWhy vbrings vbringsThen o1.2.1 visKept o1.2.2 visWriting) := hD
  refine va_put (D := D) (ci := 5) (v := .int o1.1) (ty := .int) (C := RX5) (T := TX5) (N := 33) hx hb hts inX5_passAll_X5 tyX5 tyX5_ok nmX5 hown hK hP hD hS 0 rfl rfl 6 (by decide) (hts (.fieldLink RX5 218 "WordScalesModel" "wishMany" "I") (List.mem_of_getElem? (i := 1) rfl)) (fun _ h9 => h9) rfl (tyX5_ok 6 (by decide)) rfl rfl (Nat.le_of_ble_eq_true rfl) dX5_passAll_9 (fun H locs hP hD hS => ?_)
  have hP : va_P D vwCl (mdW K q vweight vkind vrhymes vpurse vhas vwishes o1.1 vsightLeft vsightRight vsightHow vsights vpad vpadMany vact vwho vwhich vwhom vacts vplace vopenMany vended vspoken vheaviest vheaviestWeight vhad vbadAct vbadWhy vbrings vbringsThen o1.2.1 visKept o1.2.2 visWriting) H := hP
  have hD : va_D A (mdW K q vweight vkind vrhymes vpurse vhas vwishes o1.1 vsightLeft vsightRight vsightHow vsights vpad vpadMany vact vwho vwhich vwhom vacts vplace vopenMany vended vspoken vheaviest vheaviestWeight vhad vbadAct vbadWhy vbrings vbringsThen o1.2.1 visKept o1.2.2 visWriting) := hD
  refine lv_aload_n hx hb dX5_passAll_12 rfl (lv_at hl 0 rfl) ?_
  refine lv_aload_n hx hb dX5_passAll_13 rfl (lv_at hl 0 rfl) ?_
  refine lv_aload_n hx hb dX5_passAll_14 rfl (lv_at hl 0 rfl) ?_
  refine va_get (D := D) (ci := 5) (v := .int vsights) (C := RX5) (T := TX5) (N := 33) hx hb hts inX5_passAll_X5 hown hK hP 0 rfl rfl 10 (by decide) (hts (.fieldLink RX5 224 "WordScalesModel" "sights" "I") (List.mem_of_getElem? (i := 2) rfl)) (fun _ h9 => h9) rfl dX5_passAll_15 ?_
  obtain ⟨o2, ho2, hf⟩ := ob_el hf
  refine kcw_i (D := D) (va_runV (As := [.int vsights]) (rest := [.ref (q 0)]) ⟨hx, hb, hml, hown, hts⟩ ((k_X5_pass l D K q vweight vkind vrhymes vpurse vhas vwishes o1.1 vsightLeft vsightRight vsightHow vsights vpad vpadMany vact vwho vwhich vwhom vacts vplace vopenMany vended vspoken vheaviest vheaviestWeight vhad vbadAct vbadWhy vbrings vbringsThen o1.2.1 visKept o1.2.2 visWriting vsights o2 ho2) H.size) (cwV 1 hts gX5_passAll_X5_pass rfl rfl rfl ⟨rfl, yd_X5_pass⟩ ⟨Nat.le_of_ble_eq_true rfl, Nat.le_of_ble_eq_true rfl⟩) (kPreV (ci := 5) (q0 := 0) hP rfl rfl hP hD hK hN) rfl rfl hl.1 rfl (lv_room (Nat.le_of_ble_eq_true rfl)) dX5_passAll_18 ⟨Nat.le_of_ble_eq_true rfl, Nat.le_of_ble_eq_true rfl⟩) hD hS hA (fun hzo2 H locs hP hD hS => ?_)
  have hP : va_P D vwCl (mdW K q vweight vkind vrhymes vpurse vhas vwishes o1.1 vsightLeft vsightRight vsightHow vsights vpad vpadMany vact vwho vwhich vwhom vacts vplace vopenMany vended vspoken vheaviest vheaviestWeight vhad vbadAct vbadWhy vbrings vbringsThen o2.2.1 visKept o2.2.2 visWriting) H := hP
  have hD : va_D A (mdW K q vweight vkind vrhymes vpurse vhas vwishes o1.1 vsightLeft vsightRight vsightHow vsights vpad vpadMany vact vwho vwhich vwhom vacts vplace vopenMany vended vspoken vheaviest vheaviestWeight vhad vbadAct vbadWhy vbrings vbringsThen o2.2.1 visKept o2.2.2 visWriting) := hD
  refine va_put (D := D) (ci := 5) (v := .int o2.1) (ty := .int) (C := RX5) (T := TX5) (N := 33) hx hb hts inX5_passAll_X5 tyX5 tyX5_ok nmX5 hown hK hP hD hS 0 rfl rfl 10 (by decide) (hts (.fieldLink RX5 224 "WordScalesModel" "sights" "I") (List.mem_of_getElem? (i := 2) rfl)) (fun _ h9 => h9) rfl (tyX5_ok 10 (by decide)) rfl rfl (Nat.le_of_ble_eq_true rfl) dX5_passAll_21 (fun H locs hP hD hS => ?_)
  have hP : va_P D vwCl (mdW K q vweight vkind vrhymes vpurse vhas vwishes o1.1 vsightLeft vsightRight vsightHow o2.1 vpad vpadMany vact vwho vwhich vwhom vacts vplace vopenMany vended vspoken vheaviest vheaviestWeight vhad vbadAct vbadWhy vbrings vbringsThen o2.2.1 visKept o2.2.2 visWriting) H := hP
  have hD : va_D A (mdW K q vweight vkind vrhymes vpurse vhas vwishes o1.1 vsightLeft vsightRight vsightHow o2.1 vpad vpadMany vact vwho vwhich vwhom vacts vplace vopenMany vended vspoken vheaviest vheaviestWeight vhad vbadAct vbadWhy vbrings vbringsThen o2.2.1 visKept o2.2.2 visWriting) := hD
  refine lv_aload_n hx hb dX5_passAll_24 rfl (lv_at hl 0 rfl) ?_
  refine lv_aload_n hx hb dX5_passAll_25 rfl (lv_at hl 0 rfl) ?_
  refine va_get (D := D) (ci := 5) (v := .ref (q 1)) (C := RX5) (T := TX5) (N := 33) hx hb hts inX5_passAll_X5 hown hK hP 0 rfl rfl 0 (by decide) (hts (.fieldLink RX5 7 "WordScalesModel" "weight" "[I") (List.mem_of_getElem? (i := 3) rfl)) (fun _ h9 => h9) rfl dX5_passAll_26 ?_
  refine lv_bipush (v := 12) hx hb dX5_passAll_29 (by decide) ?_
  obtain ⟨o3, ho3, hf⟩ := ob_el hf
  refine kcw_v (D := D) (va_runV (As := [.ref (q 1), .int 12]) (rest := []) ⟨hx, hb, hml, hown, hts⟩ ((k_X5_passRow_weight l D K q vweight vkind vrhymes vpurse vhas vwishes o1.1 vsightLeft vsightRight vsightHow o2.1 vpad vpadMany vact vwho vwhich vwhom vacts vplace vopenMany vended vspoken vheaviest vheaviestWeight vhad vbadAct vbadWhy vbrings vbringsThen o2.2.1 visKept o2.2.2 visWriting (12) o3 ho3) H.size) (cwV 2 hts gX5_passAll_X5_passRow rfl rfl rfl ⟨rfl, yd_X5_passRow⟩ ⟨Nat.le_of_ble_eq_true rfl, Nat.le_of_ble_eq_true rfl⟩) (kPreV (ci := 5) (q0 := 0) hP rfl rfl hP hD hK hN) rfl rfl hl.1 rfl (lv_room (Nat.le_of_ble_eq_true rfl)) dX5_passAll_31 ⟨Nat.le_of_ble_eq_true rfl, Nat.le_of_ble_eq_true rfl⟩) hD hS hA (fun H locs hP hD hS => ?_)
  have hP : va_P D vwCl (mdW K q o3.1 vkind vrhymes vpurse vhas vwishes o1.1 vsightLeft vsightRight vsightHow o2.1 vpad vpadMany vact vwho vwhich vwhom vacts vplace vopenMany vended vspoken vheaviest vheaviestWeight vhad vbadAct vbadWhy vbrings vbringsThen o3.2.1 visKept o3.2.2 visWriting) H := hP
  have hD : va_D A (mdW K q o3.1 vkind vrhymes vpurse vhas vwishes o1.1 vsightLeft vsightRight vsightHow o2.1 vpad vpadMany vact vwho vwhich vwhom vacts vplace vopenMany vended vspoken vheaviest vheaviestWeight vhad vbadAct vbadWhy vbrings vbringsThen o3.2.1 visKept o3.2.2 visWriting) := hD
  refine lv_aload_n hx hb dX5_passAll_34 rfl (lv_at hl 0 rfl) ?_
  refine lv_aload_n hx hb dX5_passAll_35 rfl (lv_at hl 0 rfl) ?_
  refine va_get (D := D) (ci := 5) (v := .ref (q 2)) (C := RX5) (T := TX5) (N := 33) hx hb hts inX5_passAll_X5 hown hK hP 0 rfl rfl 1 (by decide) (hts (.fieldLink RX5 13 "WordScalesModel" "kind" "[I") (List.mem_of_getElem? (i := 4) rfl)) (fun _ h9 => h9) rfl dX5_passAll_36 ?_
  refine lv_bipush (v := 12) hx hb dX5_passAll_39 (by decide) ?_
  obtain ⟨o4, ho4, hf⟩ := ob_el hf
  refine kcw_v (D := D) (va_runV (As := [.ref (q 2), .int 12]) (rest := []) ⟨hx, hb, hml, hown, hts⟩ ((k_X5_passRow_kind l D K q o3.1 vkind vrhymes vpurse vhas vwishes o1.1 vsightLeft vsightRight vsightHow o2.1 vpad vpadMany vact vwho vwhich vwhom vacts vplace vopenMany vended vspoken vheaviest vheaviestWeight vhad vbadAct vbadWhy vbrings vbringsThen o3.2.1 visKept o3.2.2 visWriting (12) o4 ho4) H.size) (cwV 2 hts gX5_passAll_X5_passRow rfl rfl rfl ⟨rfl, yd_X5_passRow⟩ ⟨Nat.le_of_ble_eq_true rfl, Nat.le_of_ble_eq_true rfl⟩) (kPreV (ci := 5) (q0 := 0) hP rfl rfl hP hD hK hN) rfl rfl hl.1 rfl (lv_room (Nat.le_of_ble_eq_true rfl)) dX5_passAll_41 ⟨Nat.le_of_ble_eq_true rfl, Nat.le_of_ble_eq_true rfl⟩) hD hS hA (fun H locs hP hD hS => ?_)
  have hP : va_P D vwCl (mdW K q o3.1 o4.1 vrhymes vpurse vhas vwishes o1.1 vsightLeft vsightRight vsightHow o2.1 vpad vpadMany vact vwho vwhich vwhom vacts vplace vopenMany vended vspoken vheaviest vheaviestWeight vhad vbadAct vbadWhy vbrings vbringsThen o4.2.1 visKept o4.2.2 visWriting) H := hP
  have hD : va_D A (mdW K q o3.1 o4.1 vrhymes vpurse vhas vwishes o1.1 vsightLeft vsightRight vsightHow o2.1 vpad vpadMany vact vwho vwhich vwhom vacts vplace vopenMany vended vspoken vheaviest vheaviestWeight vhad vbadAct vbadWhy vbrings vbringsThen o4.2.1 visKept o4.2.2 visWriting) := hD
  refine lv_aload_n hx hb dX5_passAll_44 rfl (lv_at hl 0 rfl) ?_
  refine lv_aload_n hx hb dX5_passAll_45 rfl (lv_at hl 0 rfl) ?_
  refine va_get (D := D) (ci := 5) (v := .ref (q 3)) (C := RX5) (T := TX5) (N := 33) hx hb hts inX5_passAll_X5 hown hK hP 0 rfl rfl 2 (by decide) (hts (.fieldLink RX5 16 "WordScalesModel" "rhymes" "[I") (List.mem_of_getElem? (i := 5) rfl)) (fun _ h9 => h9) rfl dX5_passAll_46 ?_
  refine lv_bipush (v := 12) hx hb dX5_passAll_49 (by decide) ?_
  obtain ⟨o5, ho5, hf⟩ := ob_el hf
  refine kcw_v (D := D) (va_runV (As := [.ref (q 3), .int 12]) (rest := []) ⟨hx, hb, hml, hown, hts⟩ ((k_X5_passRow_rhymes l D K q o3.1 o4.1 vrhymes vpurse vhas vwishes o1.1 vsightLeft vsightRight vsightHow o2.1 vpad vpadMany vact vwho vwhich vwhom vacts vplace vopenMany vended vspoken vheaviest vheaviestWeight vhad vbadAct vbadWhy vbrings vbringsThen o4.2.1 visKept o4.2.2 visWriting (12) o5 ho5) H.size) (cwV 2 hts gX5_passAll_X5_passRow rfl rfl rfl ⟨rfl, yd_X5_passRow⟩ ⟨Nat.le_of_ble_eq_true rfl, Nat.le_of_ble_eq_true rfl⟩) (kPreV (ci := 5) (q0 := 0) hP rfl rfl hP hD hK hN) rfl rfl hl.1 rfl (lv_room (Nat.le_of_ble_eq_true rfl)) dX5_passAll_51 ⟨Nat.le_of_ble_eq_true rfl, Nat.le_of_ble_eq_true rfl⟩) hD hS hA (fun H locs hP hD hS => ?_)
  have hP : va_P D vwCl (mdW K q o3.1 o4.1 o5.1 vpurse vhas vwishes o1.1 vsightLeft vsightRight vsightHow o2.1 vpad vpadMany vact vwho vwhich vwhom vacts vplace vopenMany vended vspoken vheaviest vheaviestWeight vhad vbadAct vbadWhy vbrings vbringsThen o5.2.1 visKept o5.2.2 visWriting) H := hP
  have hD : va_D A (mdW K q o3.1 o4.1 o5.1 vpurse vhas vwishes o1.1 vsightLeft vsightRight vsightHow o2.1 vpad vpadMany vact vwho vwhich vwhom vacts vplace vopenMany vended vspoken vheaviest vheaviestWeight vhad vbadAct vbadWhy vbrings vbringsThen o5.2.1 visKept o5.2.2 visWriting) := hD
  refine lv_aload_n hx hb dX5_passAll_54 rfl (lv_at hl 0 rfl) ?_
  refine lv_aload_n hx hb dX5_passAll_55 rfl (lv_at hl 0 rfl) ?_
  refine va_get (D := D) (ci := 5) (v := .ref (q 4)) (C := RX5) (T := TX5) (N := 33) hx hb hts inX5_passAll_X5 hown hK hP 0 rfl rfl 3 (by decide) (hts (.fieldLink RX5 19 "WordScalesModel" "purse" "[I") (List.mem_of_getElem? (i := 6) rfl)) (fun _ h9 => h9) rfl dX5_passAll_56 ?_
  refine lv_iconst (v := 4) hx hb dX5_passAll_59 (by decide) ?_
  obtain ⟨o6, ho6, hf⟩ := ob_el hf
  refine kcw_v (D := D) (va_runV (As := [.ref (q 4), .int 4]) (rest := []) ⟨hx, hb, hml, hown, hts⟩ ((k_X5_passRow_purse l D K q o3.1 o4.1 o5.1 vpurse vhas vwishes o1.1 vsightLeft vsightRight vsightHow o2.1 vpad vpadMany vact vwho vwhich vwhom vacts vplace vopenMany vended vspoken vheaviest vheaviestWeight vhad vbadAct vbadWhy vbrings vbringsThen o5.2.1 visKept o5.2.2 visWriting (4) o6 ho6) H.size) (cwV 2 hts gX5_passAll_X5_passRow rfl rfl rfl ⟨rfl, yd_X5_passRow⟩ ⟨Nat.le_of_ble_eq_true rfl, Nat.le_of_ble_eq_true rfl⟩) (kPreV (ci := 5) (q0 := 0) hP rfl rfl hP hD hK hN) rfl rfl hl.1 rfl (lv_room (Nat.le_of_ble_eq_true rfl)) dX5_passAll_60 ⟨Nat.le_of_ble_eq_true rfl, Nat.le_of_ble_eq_true rfl⟩) hD hS hA (fun H locs hP hD hS => ?_)
  have hP : va_P D vwCl (mdW K q o3.1 o4.1 o5.1 o6.1 vhas vwishes o1.1 vsightLeft vsightRight vsightHow o2.1 vpad vpadMany vact vwho vwhich vwhom vacts vplace vopenMany vended vspoken vheaviest vheaviestWeight vhad vbadAct vbadWhy vbrings vbringsThen o6.2.1 visKept o6.2.2 visWriting) H := hP
  have hD : va_D A (mdW K q o3.1 o4.1 o5.1 o6.1 vhas vwishes o1.1 vsightLeft vsightRight vsightHow o2.1 vpad vpadMany vact vwho vwhich vwhom vacts vplace vopenMany vended vspoken vheaviest vheaviestWeight vhad vbadAct vbadWhy vbrings vbringsThen o6.2.1 visKept o6.2.2 visWriting) := hD
  refine lv_aload_n hx hb dX5_passAll_63 rfl (lv_at hl 0 rfl) ?_
  refine lv_aload_n hx hb dX5_passAll_64 rfl (lv_at hl 0 rfl) ?_
  refine va_get (D := D) (ci := 5) (v := .ref (q 5)) (C := RX5) (T := TX5) (N := 33) hx hb hts inX5_passAll_X5 hown hK hP 0 rfl rfl 4 (by decide) (hts (.fieldLink RX5 22 "WordScalesModel" "has" "[I") (List.mem_of_getElem? (i := 7) rfl)) (fun _ h9 => h9) rfl dX5_passAll_65 ?_
  refine lv_iconst (v := 4) hx hb dX5_passAll_68 (by decide) ?_
  obtain ⟨o7, ho7, hf⟩ := ob_el hf
  refine kcw_v (D := D) (va_runV (As := [.ref (q 5), .int 4]) (rest := []) ⟨hx, hb, hml, hown, hts⟩ ((k_X5_passRow_has l D K q o3.1 o4.1 o5.1 o6.1 vhas vwishes o1.1 vsightLeft vsightRight vsightHow o2.1 vpad vpadMany vact vwho vwhich vwhom vacts vplace vopenMany vended vspoken vheaviest vheaviestWeight vhad vbadAct vbadWhy vbrings vbringsThen o6.2.1 visKept o6.2.2 visWriting (4) o7 ho7) H.size) (cwV 2 hts gX5_passAll_X5_passRow rfl rfl rfl ⟨rfl, yd_X5_passRow⟩ ⟨Nat.le_of_ble_eq_true rfl, Nat.le_of_ble_eq_true rfl⟩) (kPreV (ci := 5) (q0 := 0) hP rfl rfl hP hD hK hN) rfl rfl hl.1 rfl (lv_room (Nat.le_of_ble_eq_true rfl)) dX5_passAll_69 ⟨Nat.le_of_ble_eq_true rfl, Nat.le_of_ble_eq_true rfl⟩) hD hS hA (fun H locs hP hD hS => ?_)
  have hP : va_P D vwCl (mdW K q o3.1 o4.1 o5.1 o6.1 o7.1 vwishes o1.1 vsightLeft vsightRight vsightHow o2.1 vpad vpadMany vact vwho vwhich vwhom vacts vplace vopenMany vended vspoken vheaviest vheaviestWeight vhad vbadAct vbadWhy vbrings vbringsThen o7.2.1 visKept o7.2.2 visWriting) H := hP
  have hD : va_D A (mdW K q o3.1 o4.1 o5.1 o6.1 o7.1 vwishes o1.1 vsightLeft vsightRight vsightHow o2.1 vpad vpadMany vact vwho vwhich vwhom vacts vplace vopenMany vended vspoken vheaviest vheaviestWeight vhad vbadAct vbadWhy vbrings vbringsThen o7.2.1 visKept o7.2.2 visWriting) := hD
  refine lv_aload_n hx hb dX5_passAll_72 rfl (lv_at hl 0 rfl) ?_
  refine lv_aload_n hx hb dX5_passAll_73 rfl (lv_at hl 0 rfl) ?_
  refine va_get (D := D) (ci := 5) (v := .ref (q 6)) (C := RX5) (T := TX5) (N := 33) hx hb hts inX5_passAll_X5 hown hK hP 0 rfl rfl 5 (by decide) (hts (.fieldLink RX5 25 "WordScalesModel" "wishes" "[I") (List.mem_of_getElem? (i := 8) rfl)) (fun _ h9 => h9) rfl dX5_passAll_74 ?_
  refine lv_bipush (v := 8) hx hb dX5_passAll_77 (by decide) ?_
  obtain ⟨o8, ho8, hf⟩ := ob_el hf
  refine kcw_v (D := D) (va_runV (As := [.ref (q 6), .int 8]) (rest := []) ⟨hx, hb, hml, hown, hts⟩ ((k_X5_passRow_wishes l D K q o3.1 o4.1 o5.1 o6.1 o7.1 vwishes o1.1 vsightLeft vsightRight vsightHow o2.1 vpad vpadMany vact vwho vwhich vwhom vacts vplace vopenMany vended vspoken vheaviest vheaviestWeight vhad vbadAct vbadWhy vbrings vbringsThen o7.2.1 visKept o7.2.2 visWriting (8) o8 ho8) H.size) (cwV 2 hts gX5_passAll_X5_passRow rfl rfl rfl ⟨rfl, yd_X5_passRow⟩ ⟨Nat.le_of_ble_eq_true rfl, Nat.le_of_ble_eq_true rfl⟩) (kPreV (ci := 5) (q0 := 0) hP rfl rfl hP hD hK hN) rfl rfl hl.1 rfl (lv_room (Nat.le_of_ble_eq_true rfl)) dX5_passAll_79 ⟨Nat.le_of_ble_eq_true rfl, Nat.le_of_ble_eq_true rfl⟩) hD hS hA (fun H locs hP hD hS => ?_)
  have hP : va_P D vwCl (mdW K q o3.1 o4.1 o5.1 o6.1 o7.1 o8.1 o1.1 vsightLeft vsightRight vsightHow o2.1 vpad vpadMany vact vwho vwhich vwhom vacts vplace vopenMany vended vspoken vheaviest vheaviestWeight vhad vbadAct vbadWhy vbrings vbringsThen o8.2.1 visKept o8.2.2 visWriting) H := hP
  have hD : va_D A (mdW K q o3.1 o4.1 o5.1 o6.1 o7.1 o8.1 o1.1 vsightLeft vsightRight vsightHow o2.1 vpad vpadMany vact vwho vwhich vwhom vacts vplace vopenMany vended vspoken vheaviest vheaviestWeight vhad vbadAct vbadWhy vbrings vbringsThen o8.2.1 visKept o8.2.2 visWriting) := hD
  refine lv_aload_n hx hb dX5_passAll_82 rfl (lv_at hl 0 rfl) ?_
  refine lv_aload_n hx hb dX5_passAll_83 rfl (lv_at hl 0 rfl) ?_
  refine va_get (D := D) (ci := 5) (v := .ref (q 7)) (C := RX5) (T := TX5) (N := 33) hx hb hts inX5_passAll_X5 hown hK hP 0 rfl rfl 7 (by decide) (hts (.fieldLink RX5 28 "WordScalesModel" "sightLeft" "[I") (List.mem_of_getElem? (i := 9) rfl)) (fun _ h9 => h9) rfl dX5_passAll_84 ?_
  refine lv_bipush (v := 6) hx hb dX5_passAll_87 (by decide) ?_
  obtain ⟨o9, ho9, hf⟩ := ob_el hf
  refine kcw_v (D := D) (va_runV (As := [.ref (q 7), .int 6]) (rest := []) ⟨hx, hb, hml, hown, hts⟩ ((k_X5_passRow_sightLeft l D K q o3.1 o4.1 o5.1 o6.1 o7.1 o8.1 o1.1 vsightLeft vsightRight vsightHow o2.1 vpad vpadMany vact vwho vwhich vwhom vacts vplace vopenMany vended vspoken vheaviest vheaviestWeight vhad vbadAct vbadWhy vbrings vbringsThen o8.2.1 visKept o8.2.2 visWriting (6) o9 ho9) H.size) (cwV 2 hts gX5_passAll_X5_passRow rfl rfl rfl ⟨rfl, yd_X5_passRow⟩ ⟨Nat.le_of_ble_eq_true rfl, Nat.le_of_ble_eq_true rfl⟩) (kPreV (ci := 5) (q0 := 0) hP rfl rfl hP hD hK hN) rfl rfl hl.1 rfl (lv_room (Nat.le_of_ble_eq_true rfl)) dX5_passAll_89 ⟨Nat.le_of_ble_eq_true rfl, Nat.le_of_ble_eq_true rfl⟩) hD hS hA (fun H locs hP hD hS => ?_)
  have hP : va_P D vwCl (mdW K q o3.1 o4.1 o5.1 o6.1 o7.1 o8.1 o1.1 o9.1 vsightRight vsightHow o2.1 vpad vpadMany vact vwho vwhich vwhom vacts vplace vopenMany vended vspoken vheaviest vheaviestWeight vhad vbadAct vbadWhy vbrings vbringsThen o9.2.1 visKept o9.2.2 visWriting) H := hP
  have hD : va_D A (mdW K q o3.1 o4.1 o5.1 o6.1 o7.1 o8.1 o1.1 o9.1 vsightRight vsightHow o2.1 vpad vpadMany vact vwho vwhich vwhom vacts vplace vopenMany vended vspoken vheaviest vheaviestWeight vhad vbadAct vbadWhy vbrings vbringsThen o9.2.1 visKept o9.2.2 visWriting) := hD
  refine lv_aload_n hx hb dX5_passAll_92 rfl (lv_at hl 0 rfl) ?_
  refine lv_aload_n hx hb dX5_passAll_93 rfl (lv_at hl 0 rfl) ?_
  refine va_get (D := D) (ci := 5) (v := .ref (q 8)) (C := RX5) (T := TX5) (N := 33) hx hb hts inX5_passAll_X5 hown hK hP 0 rfl rfl 8 (by decide) (hts (.fieldLink RX5 31 "WordScalesModel" "sightRight" "[I") (List.mem_of_getElem? (i := 10) rfl)) (fun _ h9 => h9) rfl dX5_passAll_94 ?_
  refine lv_bipush (v := 6) hx hb dX5_passAll_97 (by decide) ?_
  obtain ⟨o10, ho10, hf⟩ := ob_el hf
  refine kcw_v (D := D) (va_runV (As := [.ref (q 8), .int 6]) (rest := []) ⟨hx, hb, hml, hown, hts⟩ ((k_X5_passRow_sightRight l D K q o3.1 o4.1 o5.1 o6.1 o7.1 o8.1 o1.1 o9.1 vsightRight vsightHow o2.1 vpad vpadMany vact vwho vwhich vwhom vacts vplace vopenMany vended vspoken vheaviest vheaviestWeight vhad vbadAct vbadWhy vbrings vbringsThen o9.2.1 visKept o9.2.2 visWriting (6) o10 ho10) H.size) (cwV 2 hts gX5_passAll_X5_passRow rfl rfl rfl ⟨rfl, yd_X5_passRow⟩ ⟨Nat.le_of_ble_eq_true rfl, Nat.le_of_ble_eq_true rfl⟩) (kPreV (ci := 5) (q0 := 0) hP rfl rfl hP hD hK hN) rfl rfl hl.1 rfl (lv_room (Nat.le_of_ble_eq_true rfl)) dX5_passAll_99 ⟨Nat.le_of_ble_eq_true rfl, Nat.le_of_ble_eq_true rfl⟩) hD hS hA (fun H locs hP hD hS => ?_)
  have hP : va_P D vwCl (mdW K q o3.1 o4.1 o5.1 o6.1 o7.1 o8.1 o1.1 o9.1 o10.1 vsightHow o2.1 vpad vpadMany vact vwho vwhich vwhom vacts vplace vopenMany vended vspoken vheaviest vheaviestWeight vhad vbadAct vbadWhy vbrings vbringsThen o10.2.1 visKept o10.2.2 visWriting) H := hP
  have hD : va_D A (mdW K q o3.1 o4.1 o5.1 o6.1 o7.1 o8.1 o1.1 o9.1 o10.1 vsightHow o2.1 vpad vpadMany vact vwho vwhich vwhom vacts vplace vopenMany vended vspoken vheaviest vheaviestWeight vhad vbadAct vbadWhy vbrings vbringsThen o10.2.1 visKept o10.2.2 visWriting) := hD
  refine lv_aload_n hx hb dX5_passAll_102 rfl (lv_at hl 0 rfl) ?_
  refine lv_aload_n hx hb dX5_passAll_103 rfl (lv_at hl 0 rfl) ?_
  refine va_get (D := D) (ci := 5) (v := .ref (q 9)) (C := RX5) (T := TX5) (N := 33) hx hb hts inX5_passAll_X5 hown hK hP 0 rfl rfl 9 (by decide) (hts (.fieldLink RX5 34 "WordScalesModel" "sightHow" "[I") (List.mem_of_getElem? (i := 11) rfl)) (fun _ h9 => h9) rfl dX5_passAll_104 ?_
  refine lv_bipush (v := 6) hx hb dX5_passAll_107 (by decide) ?_
  obtain ⟨o11, ho11, hf⟩ := ob_el hf
  refine kcw_v (D := D) (va_runV (As := [.ref (q 9), .int 6]) (rest := []) ⟨hx, hb, hml, hown, hts⟩ ((k_X5_passRow_sightHow l D K q o3.1 o4.1 o5.1 o6.1 o7.1 o8.1 o1.1 o9.1 o10.1 vsightHow o2.1 vpad vpadMany vact vwho vwhich vwhom vacts vplace vopenMany vended vspoken vheaviest vheaviestWeight vhad vbadAct vbadWhy vbrings vbringsThen o10.2.1 visKept o10.2.2 visWriting (6) o11 ho11) H.size) (cwV 2 hts gX5_passAll_X5_passRow rfl rfl rfl ⟨rfl, yd_X5_passRow⟩ ⟨Nat.le_of_ble_eq_true rfl, Nat.le_of_ble_eq_true rfl⟩) (kPreV (ci := 5) (q0 := 0) hP rfl rfl hP hD hK hN) rfl rfl hl.1 rfl (lv_room (Nat.le_of_ble_eq_true rfl)) dX5_passAll_109 ⟨Nat.le_of_ble_eq_true rfl, Nat.le_of_ble_eq_true rfl⟩) hD hS hA (fun H locs hP hD hS => ?_)
  have hP : va_P D vwCl (mdW K q o3.1 o4.1 o5.1 o6.1 o7.1 o8.1 o1.1 o9.1 o10.1 o11.1 o2.1 vpad vpadMany vact vwho vwhich vwhom vacts vplace vopenMany vended vspoken vheaviest vheaviestWeight vhad vbadAct vbadWhy vbrings vbringsThen o11.2.1 visKept o11.2.2 visWriting) H := hP
  have hD : va_D A (mdW K q o3.1 o4.1 o5.1 o6.1 o7.1 o8.1 o1.1 o9.1 o10.1 o11.1 o2.1 vpad vpadMany vact vwho vwhich vwhom vacts vplace vopenMany vended vspoken vheaviest vheaviestWeight vhad vbadAct vbadWhy vbrings vbringsThen o11.2.1 visKept o11.2.2 visWriting) := hD
  obtain rfl := Option.some.inj hf
  exact hret rfl hP hD hS dX5_passAll_112
def f_X5_image (vweight : Nat → Int32) (vkind : Nat → Int32) (vrhymes : Nat → Int32) (vpurse : Nat → Int32) (vhas : Nat → Int32) (vwishes : Nat → Int32) (vwishMany : Int32) (vsightLeft : Nat → Int32) (vsightRight : Nat → Int32) (vsightHow : Nat → Int32) (vsights : Int32) (vkept : Nat → Int32) (visKept : Nat → Int32) (vkeptAt : Int32) (visWriting : Int32) (p0 : Int32) : Option (Int32 × (Nat → Int32) × (Nat → Int32) × (Nat → Int32) × (Nat → Int32) × (Nat → Int32) × (Nat → Int32) × Int32 × (Nat → Int32) × (Nat → Int32) × (Nat → Int32) × Int32 × (Nat → Int32) × (Nat → Int32) × Int32 × Int32) := bd (f_X5_in p0.toInt64 (0) (1)) (fun o1 => if o1 = 0 then (some ((-2), vweight, vkind, vrhymes, vpurse, vhas, vwishes, vwishMany, vsightLeft, vsightRight, vsightHow, vsights, vkept, visKept, vkeptAt, visWriting)) else (ob (f_X5_passAll vweight vkind vrhymes vpurse vhas vwishes vwishMany vsightLeft vsightRight vsightHow vsights vkept (90 * p0) 1) (fun o3 => chk p0 2 (some (1, o3.1, o3.2.1, o3.2.2.1, o3.2.2.2.1, o3.2.2.2.2.1, o3.2.2.2.2.2.1, o3.2.2.2.2.2.2.1, o3.2.2.2.2.2.2.2.1, o3.2.2.2.2.2.2.2.2.1, o3.2.2.2.2.2.2.2.2.2.1, o3.2.2.2.2.2.2.2.2.2.2.1, o3.2.2.2.2.2.2.2.2.2.2.2.1, (upd visKept (p0).toNatClampNeg (vp_nar .boolean 1)), o3.2.2.2.2.2.2.2.2.2.2.2.2, 1)))))
theorem inX5_image_X5 : ∀ w ∈ wsX50, w ∈ wsX5_image := fun w h => List.mem_cons_of_mem _ (List.mem_append_right _ h)
theorem yd_X5_image : yX5_image.cls ≠ "java/lang/invoke/MethodHandle" ∧ yX5_image.cls ≠ "java/lang/invoke/VarHandle" ∧ (parseMethodDescriptor yX5_image.desc).map (fun d => d.parameters.length) = some 1 := by decide +kernel
abbrev rmX5_image : Room := { frames := 3, cells := 0, slots := 0, locals := 65 }
set_option maxHeartbeats 4000000 in
set_option maxRecDepth 100000 in
theorem k_X5_image (l : Launch) (D : va_G) (K : Nat → ClassId) (q : Nat → Nat) (vweight : Nat → Int32) (vkind : Nat → Int32) (vrhymes : Nat → Int32) (vpurse : Nat → Int32) (vhas : Nat → Int32) (vwishes : Nat → Int32) (vwishMany : Int32) (vsightLeft : Nat → Int32) (vsightRight : Nat → Int32) (vsightHow : Nat → Int32) (vsights : Int32) (vpad : Nat → Int32) (vpadMany : Int32) (vact : Nat → Int32) (vwho : Nat → Int32) (vwhich : Nat → Int32) (vwhom : Nat → Int32) (vacts : Int32) (vplace : Int32) (vopenMany : Int32) (vended : Int32) (vspoken : Int32) (vheaviest : Int32) (vheaviestWeight : Int32) (vhad : Nat → Int32) (vbadAct : Int32) (vbadWhy : Int32) (vbrings : Nat → Int64) (vbringsThen : Nat → Int64) (vkept : Nat → Int32) (visKept : Nat → Int32) (vkeptAt : Int32) (visWriting : Int32) (p0 : Int32) (out : Int32 × (Nat → Int32) × (Nat → Int32) × (Nat → Int32) × (Nat → Int32) × (Nat → Int32) × (Nat → Int32) × Int32 × (Nat → Int32) × (Nat → Int32) × (Nat → Int32) × Int32 × (Nat → Int32) × (Nat → Int32) × Int32 × Int32) (hf : f_X5_image vweight vkind vrhymes vpurse vhas vwishes vwishMany vsightLeft vsightRight vsightHow vsights vkept visKept vkeptAt visWriting p0 = some out) : kI l D K .int yX5_image wsX5_image rmX5_image [.ref (q 0), .int p0] (mdW K q vweight vkind vrhymes vpurse vhas vwishes vwishMany vsightLeft vsightRight vsightHow vsights vpad vpadMany vact vwho vwhich vwhom vacts vplace vopenMany vended vspoken vheaviest vheaviestWeight vhad vbadAct vbadWhy vbrings vbringsThen vkept visKept vkeptAt visWriting) out.1 (mdW K q out.2.1 out.2.2.1 out.2.2.2.1 out.2.2.2.2.1 out.2.2.2.2.2.1 out.2.2.2.2.2.2.1 out.2.2.2.2.2.2.2.1 out.2.2.2.2.2.2.2.2.1 out.2.2.2.2.2.2.2.2.2.1 out.2.2.2.2.2.2.2.2.2.2.1 out.2.2.2.2.2.2.2.2.2.2.2.1 vpad vpadMany vact vwho vwhich vwhom vacts vplace vopenMany vended vspoken vheaviest vheaviestWeight vhad vbadAct vbadWhy vbrings vbringsThen out.2.2.2.2.2.2.2.2.2.2.2.2.1 out.2.2.2.2.2.2.2.2.2.2.2.2.2.1 out.2.2.2.2.2.2.2.2.2.2.2.2.2.2.1 out.2.2.2.2.2.2.2.2.2.2.2.2.2.2.2) := by
  refine kI.of (cc := cX5_image) (maxL := 2) (by decide) rfl (Nat.le_of_ble_eq_true rfl) ?_
  intro p e s m args below meth c A H0 Q ls hx hb hml hown hts hK hN hA hP hD hS hl hret
  have hown : s.vm.findClass RX5 = some m.cls := hown
  have hl : lv_has ls 2 [(0, .ref (q 0)), (1, .int p0)] := hl
  generalize hH : H0 = H at hP ⊢
  have hS : va_S A H0 H [] := by rw [← hH]; exact hS
  clear hH
  unfold f_X5_image at hf
  refine lv_iload_n hx hb dX5_image_0 rfl (lv_at hl 1 rfl) ?_
  refine lv_i2l (v := p0.toInt64) hx hb dX5_image_1 rfl ?_
  refine lv_lconst (v := 0) hx hb dX5_image_2 (by decide) ?_
  refine lv_lconst (v := 1) hx hb dX5_image_3 (by decide) ?_
  obtain ⟨o1, ho1, hf⟩ := bd_el hf
  refine kc0_i (D := D) (va_runS (As := [.long p0.toInt64, .long 0, .long 1]) (rest := []) ⟨hx, hb, hml, hown, hts⟩ ((k_X5_in l D K p0.toInt64 (0) (1) o1 ho1) H.size) (va_cwS 3 hts gX5_image_X5_in rfl rfl rfl yd_X5_in ⟨Nat.le_of_ble_eq_true rfl, Nat.le_of_ble_eq_true rfl⟩) (kPreS va_P_nil (va_D_nil (A := fun _ => True)) hK hN) rfl rfl hl.1 rfl (lv_room (Nat.le_of_ble_eq_true rfl)) dX5_image_4 ⟨Nat.le_of_ble_eq_true rfl, Nat.le_of_ble_eq_true rfl⟩) hP hS hA (fun hzo1 H locs hP hS => ?_)
  refine lv_if_ne (tgt := 13) hx hb dX5_image_7 (by decide) (fun c2 => ?_) (fun c2 => ?_)
  · rw [if_neg c2] at hf
    refine lv_aload_n hx hb dX5_image_13 rfl (lv_at hl 0 rfl) ?_
    refine lv_bipush (v := 90) hx hb dX5_image_14 (by decide) ?_
    refine lv_iload_n hx hb dX5_image_16 rfl (lv_at hl 1 rfl) ?_
    refine lv_imul hx hb dX5_image_17 ?_
    refine va_put (D := D) (ci := 5) (v := .int (90 * p0)) (ty := .int) (C := RX5) (T := TX5) (N := 33) hx hb hts inX5_image_X5 tyX5 tyX5_ok nmX5 hown hK hP hD hS 0 rfl rfl 31 (by decide) (hts (.fieldLink RX5 263 "WordScalesModel" "keptAt" "I") (List.mem_of_getElem? (i := 1) rfl)) (fun _ h9 => h9) rfl (tyX5_ok 31 (by decide)) rfl rfl (Nat.le_of_ble_eq_true rfl) dX5_image_18 (fun H locs hP hD hS => ?_)
    have hP : va_P D vwCl (mdW K q vweight vkind vrhymes vpurse vhas vwishes vwishMany vsightLeft vsightRight vsightHow vsights vpad vpadMany vact vwho vwhich vwhom vacts vplace vopenMany vended vspoken vheaviest vheaviestWeight vhad vbadAct vbadWhy vbrings vbringsThen vkept visKept (90 * p0) visWriting) H := hP
    have hD : va_D A (mdW K q vweight vkind vrhymes vpurse vhas vwishes vwishMany vsightLeft vsightRight vsightHow vsights vpad vpadMany vact vwho vwhich vwhom vacts vplace vopenMany vended vspoken vheaviest vheaviestWeight vhad vbadAct vbadWhy vbrings vbringsThen vkept visKept (90 * p0) visWriting) := hD
    refine lv_aload_n hx hb dX5_image_21 rfl (lv_at hl 0 rfl) ?_
    refine lv_iconst (v := 1) hx hb dX5_image_22 (by decide) ?_
    refine va_put (D := D) (ci := 5) (v := .int 1) (ty := .boolean) (C := RX5) (T := TX5) (N := 33) hx hb hts inX5_image_X5 tyX5 tyX5_ok nmX5 hown hK hP hD hS 0 rfl rfl 32 (by decide) (hts (.fieldLink RX5 259 "WordScalesModel" "isWriting" "Z") (List.mem_of_getElem? (i := 2) rfl)) (fun _ h9 => h9) rfl (tyX5_ok 32 (by decide)) rfl rfl (Nat.le_of_ble_eq_true rfl) dX5_image_23 (fun H locs hP hD hS => ?_)
    have hP : va_P D vwCl (mdW K q vweight vkind vrhymes vpurse vhas vwishes vwishMany vsightLeft vsightRight vsightHow vsights vpad vpadMany vact vwho vwhich vwhom vacts vplace vopenMany vended vspoken vheaviest vheaviestWeight vhad vbadAct vbadWhy vbrings vbringsThen vkept visKept (90 * p0) 1) H := hP
    have hD : va_D A (mdW K q vweight vkind vrhymes vpurse vhas vwishes vwishMany vsightLeft vsightRight vsightHow vsights vpad vpadMany vact vwho vwhich vwhom vacts vplace vopenMany vended vspoken vheaviest vheaviestWeight vhad vbadAct vbadWhy vbrings vbringsThen vkept visKept (90 * p0) 1) := hD
    refine lv_aload_n hx hb dX5_image_26 rfl (lv_at hl 0 rfl) ?_
    obtain ⟨o3, ho3, hf⟩ := ob_el hf
    refine kcw_v (D := D) (va_runV (As := []) (rest := []) ⟨hx, hb, hml, hown, hts⟩ ((k_X5_passAll l D K q vweight vkind vrhymes vpurse vhas vwishes vwishMany vsightLeft vsightRight vsightHow vsights vpad vpadMany vact vwho vwhich vwhom vacts vplace vopenMany vended vspoken vheaviest vheaviestWeight vhad vbadAct vbadWhy vbrings vbringsThen vkept visKept (90 * p0) 1 o3 ho3) H.size) (cwV 0 hts gX5_image_X5_passAll rfl rfl rfl ⟨rfl, yd_X5_passAll⟩ ⟨Nat.le_of_ble_eq_true rfl, Nat.le_of_ble_eq_true rfl⟩) (kPreV (ci := 5) (q0 := 0) hP rfl rfl hP hD hK hN) rfl rfl hl.1 rfl (lv_room (Nat.le_of_ble_eq_true rfl)) dX5_image_27 ⟨Nat.le_of_ble_eq_true rfl, Nat.le_of_ble_eq_true rfl⟩) hD hS hA (fun H locs hP hD hS => ?_)
    have hP : va_P D vwCl (mdW K q o3.1 o3.2.1 o3.2.2.1 o3.2.2.2.1 o3.2.2.2.2.1 o3.2.2.2.2.2.1 o3.2.2.2.2.2.2.1 o3.2.2.2.2.2.2.2.1 o3.2.2.2.2.2.2.2.2.1 o3.2.2.2.2.2.2.2.2.2.1 o3.2.2.2.2.2.2.2.2.2.2.1 vpad vpadMany vact vwho vwhich vwhom vacts vplace vopenMany vended vspoken vheaviest vheaviestWeight vhad vbadAct vbadWhy vbrings vbringsThen o3.2.2.2.2.2.2.2.2.2.2.2.1 visKept o3.2.2.2.2.2.2.2.2.2.2.2.2 1) H := hP
    have hD : va_D A (mdW K q o3.1 o3.2.1 o3.2.2.1 o3.2.2.2.1 o3.2.2.2.2.1 o3.2.2.2.2.2.1 o3.2.2.2.2.2.2.1 o3.2.2.2.2.2.2.2.1 o3.2.2.2.2.2.2.2.2.1 o3.2.2.2.2.2.2.2.2.2.1 o3.2.2.2.2.2.2.2.2.2.2.1 vpad vpadMany vact vwho vwhich vwhom vacts vplace vopenMany vended vspoken vheaviest vheaviestWeight vhad vbadAct vbadWhy vbrings vbringsThen o3.2.2.2.2.2.2.2.2.2.2.2.1 visKept o3.2.2.2.2.2.2.2.2.2.2.2.2 1) := hD
    refine lv_aload_n hx hb dX5_image_30 rfl (lv_at hl 0 rfl) ?_
    refine va_get (D := D) (ci := 5) (v := .ref (q 19)) (C := RX5) (T := TX5) (N := 33) hx hb hts inX5_image_X5 hown hK hP 0 rfl rfl 30 (by decide) (hts (.fieldLink RX5 65 "WordScalesModel" "isKept" "[Z") (List.mem_of_getElem? (i := 3) rfl)) (fun _ h9 => h9) rfl dX5_image_31 ?_
    refine lv_iload_n hx hb dX5_image_34 rfl (lv_at hl 1 rfl) ?_
    refine lv_iconst (v := 1) hx hb dX5_image_35 (by decide) ?_
    obtain ⟨v4, hf⟩ := chk_el hf
    refine va_zast (D := D) (f := visKept) hx hb hK hP hD hS 19 2 rfl rfl v4 dX5_image_36 (fun H locs hP hD hS => ?_)
    have hP : va_P D vwCl (mdW K q o3.1 o3.2.1 o3.2.2.1 o3.2.2.2.1 o3.2.2.2.2.1 o3.2.2.2.2.2.1 o3.2.2.2.2.2.2.1 o3.2.2.2.2.2.2.2.1 o3.2.2.2.2.2.2.2.2.1 o3.2.2.2.2.2.2.2.2.2.1 o3.2.2.2.2.2.2.2.2.2.2.1 vpad vpadMany vact vwho vwhich vwhom vacts vplace vopenMany vended vspoken vheaviest vheaviestWeight vhad vbadAct vbadWhy vbrings vbringsThen o3.2.2.2.2.2.2.2.2.2.2.2.1 (upd visKept (p0).toNatClampNeg (vp_nar .boolean 1)) o3.2.2.2.2.2.2.2.2.2.2.2.2 1) H := hP
    have hD : va_D A (mdW K q o3.1 o3.2.1 o3.2.2.1 o3.2.2.2.1 o3.2.2.2.2.1 o3.2.2.2.2.2.1 o3.2.2.2.2.2.2.1 o3.2.2.2.2.2.2.2.1 o3.2.2.2.2.2.2.2.2.1 o3.2.2.2.2.2.2.2.2.2.1 o3.2.2.2.2.2.2.2.2.2.2.1 vpad vpadMany vact vwho vwhich vwhom vacts vplace vopenMany vended vspoken vheaviest vheaviestWeight vhad vbadAct vbadWhy vbrings vbringsThen o3.2.2.2.2.2.2.2.2.2.2.2.1 (upd visKept (p0).toNatClampNeg (vp_nar .boolean 1)) o3.2.2.2.2.2.2.2.2.2.2.2.2 1) := hD
    refine lv_iconst (v := 1) hx hb dX5_image_37 (by decide) ?_
    obtain rfl := Option.some.inj hf
    exact hret rfl rfl rfl hP hD hS dX5_image_38
  · rw [if_pos c2] at hf
    refine lv_bipush (v := (-2)) hx hb dX5_image_10 (by decide) ?_
    obtain rfl := Option.some.inj hf
    exact hret rfl rfl rfl hP hD hS dX5_image_12
def f_X5_restore (vweight : Nat → Int32) (vkind : Nat → Int32) (vrhymes : Nat → Int32) (vpurse : Nat → Int32) (vhas : Nat → Int32) (vwishes : Nat → Int32) (vwishMany : Int32) (vsightLeft : Nat → Int32) (vsightRight : Nat → Int32) (vsightHow : Nat → Int32) (vsights : Int32) (vkept : Nat → Int32) (visKept : Nat → Int32) (vkeptAt : Int32) (visWriting : Int32) (p0 : Int32) : Option (Int32 × (Nat → Int32) × (Nat → Int32) × (Nat → Int32) × (Nat → Int32) × (Nat → Int32) × (Nat → Int32) × Int32 × (Nat → Int32) × (Nat → Int32) × (Nat → Int32) × Int32 × (Nat → Int32) × Int32 × Int32) := bd (f_X5_in p0.toInt64 (0) (1)) (fun o1 => if o1 = 0 then (some ((-2), vweight, vkind, vrhymes, vpurse, vhas, vwishes, vwishMany, vsightLeft, vsightRight, vsightHow, vsights, vkept, vkeptAt, visWriting)) else (chk p0 2 (if (visKept (p0).toNatClampNeg) = 0 then (some ((-3), vweight, vkind, vrhymes, vpurse, vhas, vwishes, vwishMany, vsightLeft, vsightRight, vsightHow, vsights, vkept, vkeptAt, visWriting)) else (ob (f_X5_passAll vweight vkind vrhymes vpurse vhas vwishes vwishMany vsightLeft vsightRight vsightHow vsights vkept (90 * p0) 0) (fun o5 => some (1, o5.1, o5.2.1, o5.2.2.1, o5.2.2.2.1, o5.2.2.2.2.1, o5.2.2.2.2.2.1, o5.2.2.2.2.2.2.1, o5.2.2.2.2.2.2.2.1, o5.2.2.2.2.2.2.2.2.1, o5.2.2.2.2.2.2.2.2.2.1, o5.2.2.2.2.2.2.2.2.2.2.1, o5.2.2.2.2.2.2.2.2.2.2.2.1, o5.2.2.2.2.2.2.2.2.2.2.2.2, 0))))))
theorem inX5_restore_X5 : ∀ w ∈ wsX50, w ∈ wsX5_restore := fun w h => List.mem_cons_of_mem _ (List.mem_append_right _ h)
theorem yd_X5_restore : yX5_restore.cls ≠ "java/lang/invoke/MethodHandle" ∧ yX5_restore.cls ≠ "java/lang/invoke/VarHandle" ∧ (parseMethodDescriptor yX5_restore.desc).map (fun d => d.parameters.length) = some 1 := by decide +kernel
abbrev rmX5_restore : Room := { frames := 3, cells := 0, slots := 0, locals := 65 }
set_option maxHeartbeats 4000000 in
set_option maxRecDepth 100000 in
theorem k_X5_restore (l : Launch) (D : va_G) (K : Nat → ClassId) (q : Nat → Nat) (vweight : Nat → Int32) (vkind : Nat → Int32) (vrhymes : Nat → Int32) (vpurse : Nat → Int32) (vhas : Nat → Int32) (vwishes : Nat → Int32) (vwishMany : Int32) (vsightLeft : Nat → Int32) (vsightRight : Nat → Int32) (vsightHow : Nat → Int32) (vsights : Int32) (vpad : Nat → Int32) (vpadMany : Int32) (vact : Nat → Int32) (vwho : Nat → Int32) (vwhich : Nat → Int32) (vwhom : Nat → Int32) (vacts : Int32) (vplace : Int32) (vopenMany : Int32) (vended : Int32) (vspoken : Int32) (vheaviest : Int32) (vheaviestWeight : Int32) (vhad : Nat → Int32) (vbadAct : Int32) (vbadWhy : Int32) (vbrings : Nat → Int64) (vbringsThen : Nat → Int64) (vkept : Nat → Int32) (visKept : Nat → Int32) (vkeptAt : Int32) (visWriting : Int32) (p0 : Int32) (out : Int32 × (Nat → Int32) × (Nat → Int32) × (Nat → Int32) × (Nat → Int32) × (Nat → Int32) × (Nat → Int32) × Int32 × (Nat → Int32) × (Nat → Int32) × (Nat → Int32) × Int32 × (Nat → Int32) × Int32 × Int32) (hf : f_X5_restore vweight vkind vrhymes vpurse vhas vwishes vwishMany vsightLeft vsightRight vsightHow vsights vkept visKept vkeptAt visWriting p0 = some out) : kI l D K .int yX5_restore wsX5_restore rmX5_restore [.ref (q 0), .int p0] (mdW K q vweight vkind vrhymes vpurse vhas vwishes vwishMany vsightLeft vsightRight vsightHow vsights vpad vpadMany vact vwho vwhich vwhom vacts vplace vopenMany vended vspoken vheaviest vheaviestWeight vhad vbadAct vbadWhy vbrings vbringsThen vkept visKept vkeptAt visWriting) out.1 (mdW K q out.2.1 out.2.2.1 out.2.2.2.1 out.2.2.2.2.1 out.2.2.2.2.2.1 out.2.2.2.2.2.2.1 out.2.2.2.2.2.2.2.1 out.2.2.2.2.2.2.2.2.1 out.2.2.2.2.2.2.2.2.2.1 out.2.2.2.2.2.2.2.2.2.2.1 out.2.2.2.2.2.2.2.2.2.2.2.1 vpad vpadMany vact vwho vwhich vwhom vacts vplace vopenMany vended vspoken vheaviest vheaviestWeight vhad vbadAct vbadWhy vbrings vbringsThen out.2.2.2.2.2.2.2.2.2.2.2.2.1 visKept out.2.2.2.2.2.2.2.2.2.2.2.2.2.1 out.2.2.2.2.2.2.2.2.2.2.2.2.2.2) := by
  refine kI.of (cc := cX5_restore) (maxL := 2) (by decide) rfl (Nat.le_of_ble_eq_true rfl) ?_
  intro p e s m args below meth c A H0 Q ls hx hb hml hown hts hK hN hA hP hD hS hl hret
  have hown : s.vm.findClass RX5 = some m.cls := hown
  have hl : lv_has ls 2 [(0, .ref (q 0)), (1, .int p0)] := hl
  generalize hH : H0 = H at hP ⊢
  have hS : va_S A H0 H [] := by rw [← hH]; exact hS
  clear hH
  unfold f_X5_restore at hf
  refine lv_iload_n hx hb dX5_restore_0 rfl (lv_at hl 1 rfl) ?_
  refine lv_i2l (v := p0.toInt64) hx hb dX5_restore_1 rfl ?_
  refine lv_lconst (v := 0) hx hb dX5_restore_2 (by decide) ?_
  refine lv_lconst (v := 1) hx hb dX5_restore_3 (by decide) ?_
  obtain ⟨o1, ho1, hf⟩ := bd_el hf
  refine kc0_i (D := D) (va_runS (As := [.long p0.toInt64, .long 0, .long 1]) (rest := []) ⟨hx, hb, hml, hown, hts⟩ ((k_X5_in l D K p0.toInt64 (0) (1) o1 ho1) H.size) (va_cwS 3 hts gX5_restore_X5_in rfl rfl rfl yd_X5_in ⟨Nat.le_of_ble_eq_true rfl, Nat.le_of_ble_eq_true rfl⟩) (kPreS va_P_nil (va_D_nil (A := fun _ => True)) hK hN) rfl rfl hl.1 rfl (lv_room (Nat.le_of_ble_eq_true rfl)) dX5_restore_4 ⟨Nat.le_of_ble_eq_true rfl, Nat.le_of_ble_eq_true rfl⟩) hP hS hA (fun hzo1 H locs hP hS => ?_)
  refine lv_if_ne (tgt := 13) hx hb dX5_restore_7 (by decide) (fun c2 => ?_) (fun c2 => ?_)
  · rw [if_neg c2] at hf
    refine lv_aload_n hx hb dX5_restore_13 rfl (lv_at hl 0 rfl) ?_
    refine va_get (D := D) (ci := 5) (v := .ref (q 19)) (C := RX5) (T := TX5) (N := 33) hx hb hts inX5_restore_X5 hown hK hP 0 rfl rfl 30 (by decide) (hts (.fieldLink RX5 65 "WordScalesModel" "isKept" "[Z") (List.mem_of_getElem? (i := 1) rfl)) (fun _ h9 => h9) rfl dX5_restore_14 ?_
    refine lv_iload_n hx hb dX5_restore_17 rfl (lv_at hl 1 rfl) ?_
    obtain ⟨v3, hf⟩ := chk_el hf
    refine va_zald (D := D) (f := visKept) hx hb hK hP 19 2 rfl rfl v3 dX5_restore_18 ?_
    refine lv_if_ne (tgt := 25) hx hb dX5_restore_19 (by decide) (fun c4 => ?_) (fun c4 => ?_)
    · rw [if_neg c4] at hf
      refine lv_aload_n hx hb dX5_restore_25 rfl (lv_at hl 0 rfl) ?_
      refine lv_bipush (v := 90) hx hb dX5_restore_26 (by decide) ?_
      refine lv_iload_n hx hb dX5_restore_28 rfl (lv_at hl 1 rfl) ?_
      refine lv_imul hx hb dX5_restore_29 ?_
      refine va_put (D := D) (ci := 5) (v := .int (90 * p0)) (ty := .int) (C := RX5) (T := TX5) (N := 33) hx hb hts inX5_restore_X5 tyX5 tyX5_ok nmX5 hown hK hP hD hS 0 rfl rfl 31 (by decide) (hts (.fieldLink RX5 263 "WordScalesModel" "keptAt" "I") (List.mem_of_getElem? (i := 2) rfl)) (fun _ h9 => h9) rfl (tyX5_ok 31 (by decide)) rfl rfl (Nat.le_of_ble_eq_true rfl) dX5_restore_30 (fun H locs hP hD hS => ?_)
      have hP : va_P D vwCl (mdW K q vweight vkind vrhymes vpurse vhas vwishes vwishMany vsightLeft vsightRight vsightHow vsights vpad vpadMany vact vwho vwhich vwhom vacts vplace vopenMany vended vspoken vheaviest vheaviestWeight vhad vbadAct vbadWhy vbrings vbringsThen vkept visKept (90 * p0) visWriting) H := hP
      have hD : va_D A (mdW K q vweight vkind vrhymes vpurse vhas vwishes vwishMany vsightLeft vsightRight vsightHow vsights vpad vpadMany vact vwho vwhich vwhom vacts vplace vopenMany vended vspoken vheaviest vheaviestWeight vhad vbadAct vbadWhy vbrings vbringsThen vkept visKept (90 * p0) visWriting) := hD
      refine lv_aload_n hx hb dX5_restore_33 rfl (lv_at hl 0 rfl) ?_
      refine lv_iconst (v := 0) hx hb dX5_restore_34 (by decide) ?_
      refine va_put (D := D) (ci := 5) (v := .int 0) (ty := .boolean) (C := RX5) (T := TX5) (N := 33) hx hb hts inX5_restore_X5 tyX5 tyX5_ok nmX5 hown hK hP hD hS 0 rfl rfl 32 (by decide) (hts (.fieldLink RX5 259 "WordScalesModel" "isWriting" "Z") (List.mem_of_getElem? (i := 3) rfl)) (fun _ h9 => h9) rfl (tyX5_ok 32 (by decide)) rfl rfl (Nat.le_of_ble_eq_true rfl) dX5_restore_35 (fun H locs hP hD hS => ?_)
      have hP : va_P D vwCl (mdW K q vweight vkind vrhymes vpurse vhas vwishes vwishMany vsightLeft vsightRight vsightHow vsights vpad vpadMany vact vwho vwhich vwhom vacts vplace vopenMany vended vspoken vheaviest vheaviestWeight vhad vbadAct vbadWhy vbrings vbringsThen vkept visKept (90 * p0) 0) H := hP
      have hD : va_D A (mdW K q vweight vkind vrhymes vpurse vhas vwishes vwishMany vsightLeft vsightRight vsightHow vsights vpad vpadMany vact vwho vwhich vwhom vacts vplace vopenMany vended vspoken vheaviest vheaviestWeight vhad vbadAct vbadWhy vbrings vbringsThen vkept visKept (90 * p0) 0) := hD
      refine lv_aload_n hx hb dX5_restore_38 rfl (lv_at hl 0 rfl) ?_
      obtain ⟨o5, ho5, hf⟩ := ob_el hf
      refine kcw_v (D := D) (va_runV (As := []) (rest := []) ⟨hx, hb, hml, hown, hts⟩ ((k_X5_passAll l D K q vweight vkind vrhymes vpurse vhas vwishes vwishMany vsightLeft vsightRight vsightHow vsights vpad vpadMany vact vwho vwhich vwhom vacts vplace vopenMany vended vspoken vheaviest vheaviestWeight vhad vbadAct vbadWhy vbrings vbringsThen vkept visKept (90 * p0) 0 o5 ho5) H.size) (cwV 0 hts gX5_restore_X5_passAll rfl rfl rfl ⟨rfl, yd_X5_passAll⟩ ⟨Nat.le_of_ble_eq_true rfl, Nat.le_of_ble_eq_true rfl⟩) (kPreV (ci := 5) (q0 := 0) hP rfl rfl hP hD hK hN) rfl rfl hl.1 rfl (lv_room (Nat.le_of_ble_eq_true rfl)) dX5_restore_39 ⟨Nat.le_of_ble_eq_true rfl, Nat.le_of_ble_eq_true rfl⟩) hD hS hA (fun H locs hP hD hS => ?_)
      have hP : va_P D vwCl (mdW K q o5.1 o5.2.1 o5.2.2.1 o5.2.2.2.1 o5.2.2.2.2.1 o5.2.2.2.2.2.1 o5.2.2.2.2.2.2.1 o5.2.2.2.2.2.2.2.1 o5.2.2.2.2.2.2.2.2.1 o5.2.2.2.2.2.2.2.2.2.1 o5.2.2.2.2.2.2.2.2.2.2.1 vpad vpadMany vact vwho vwhich vwhom vacts vplace vopenMany vended vspoken vheaviest vheaviestWeight vhad vbadAct vbadWhy vbrings vbringsThen o5.2.2.2.2.2.2.2.2.2.2.2.1 visKept o5.2.2.2.2.2.2.2.2.2.2.2.2 0) H := hP
      have hD : va_D A (mdW K q o5.1 o5.2.1 o5.2.2.1 o5.2.2.2.1 o5.2.2.2.2.1 o5.2.2.2.2.2.1 o5.2.2.2.2.2.2.1 o5.2.2.2.2.2.2.2.1 o5.2.2.2.2.2.2.2.2.1 o5.2.2.2.2.2.2.2.2.2.1 o5.2.2.2.2.2.2.2.2.2.2.1 vpad vpadMany vact vwho vwhich vwhom vacts vplace vopenMany vended vspoken vheaviest vheaviestWeight vhad vbadAct vbadWhy vbrings vbringsThen o5.2.2.2.2.2.2.2.2.2.2.2.1 visKept o5.2.2.2.2.2.2.2.2.2.2.2.2 0) := hD
      refine lv_iconst (v := 1) hx hb dX5_restore_42 (by decide) ?_
      obtain rfl := Option.some.inj hf
      exact hret rfl rfl rfl hP hD hS dX5_restore_43
    · rw [if_pos c4] at hf
      refine lv_bipush (v := (-3)) hx hb dX5_restore_22 (by decide) ?_
      obtain rfl := Option.some.inj hf
      exact hret rfl rfl rfl hP hD hS dX5_restore_24
  · rw [if_pos c2] at hf
    refine lv_bipush (v := (-2)) hx hb dX5_restore_10 (by decide) ?_
    obtain rfl := Option.some.inj hf
    exact hret rfl rfl rfl hP hD hS dX5_restore_12
def f_X5_toldOfWord (vweight : Nat → Int32) (vkind : Nat → Int32) (vrhymes : Nat → Int32) (p0 : Int32) (p1 : Int32) : Option (Int32) := if p1 = 0 then (chk p0 12 (some (vweight (p0).toNatClampNeg))) else (if p1 = 1 then (chk p0 12 (some (vkind (p0).toNatClampNeg))) else (if p1 = 2 then (ob (f_X5_rhymesOf vrhymes p0) (fun o4 => some o4)) else (some (-2))))
theorem inX5_toldOfWord_X5 : ∀ w ∈ wsX50, w ∈ wsX5_toldOfWord := fun w h => List.mem_cons_of_mem _ (List.mem_append_right _ h)
theorem yd_X5_toldOfWord : yX5_toldOfWord.cls ≠ "java/lang/invoke/MethodHandle" ∧ yX5_toldOfWord.cls ≠ "java/lang/invoke/VarHandle" ∧ (parseMethodDescriptor yX5_toldOfWord.desc).map (fun d => d.parameters.length) = some 2 := by decide +kernel
abbrev rmX5_toldOfWord : Room := { frames := 1, cells := 0, slots := 0, locals := 23 }
set_option maxHeartbeats 4000000 in
set_option maxRecDepth 100000 in
theorem k_X5_toldOfWord (l : Launch) (D : va_G) (K : Nat → ClassId) (q : Nat → Nat) (vweight : Nat → Int32) (vkind : Nat → Int32) (vrhymes : Nat → Int32) (vpurse : Nat → Int32) (vhas : Nat → Int32) (vwishes : Nat → Int32) (vwishMany : Int32) (vsightLeft : Nat → Int32) (vsightRight : Nat → Int32) (vsightHow : Nat → Int32) (vsights : Int32) (vpad : Nat → Int32) (vpadMany : Int32) (vact : Nat → Int32) (vwho : Nat → Int32) (vwhich : Nat → Int32) (vwhom : Nat → Int32) (vacts : Int32) (vplace : Int32) (vopenMany : Int32) (vended : Int32) (vspoken : Int32) (vheaviest : Int32) (vheaviestWeight : Int32) (vhad : Nat → Int32) (vbadAct : Int32) (vbadWhy : Int32) (vbrings : Nat → Int64) (vbringsThen : Nat → Int64) (vkept : Nat → Int32) (visKept : Nat → Int32) (vkeptAt : Int32) (visWriting : Int32) (p0 : Int32) (p1 : Int32) (out : Int32) (hf : f_X5_toldOfWord vweight vkind vrhymes p0 p1 = some out) : kI l D K .int yX5_toldOfWord wsX5_toldOfWord rmX5_toldOfWord [.ref (q 0), .int p0, .int p1] (mdW K q vweight vkind vrhymes vpurse vhas vwishes vwishMany vsightLeft vsightRight vsightHow vsights vpad vpadMany vact vwho vwhich vwhom vacts vplace vopenMany vended vspoken vheaviest vheaviestWeight vhad vbadAct vbadWhy vbrings vbringsThen vkept visKept vkeptAt visWriting) out (mdW K q vweight vkind vrhymes vpurse vhas vwishes vwishMany vsightLeft vsightRight vsightHow vsights vpad vpadMany vact vwho vwhich vwhom vacts vplace vopenMany vended vspoken vheaviest vheaviestWeight vhad vbadAct vbadWhy vbrings vbringsThen vkept visKept vkeptAt visWriting) := by
  refine kI.of (cc := cX5_toldOfWord) (maxL := 3) (by decide) rfl (Nat.le_of_ble_eq_true rfl) ?_
  intro p e s m args below meth c A H0 Q ls hx hb hml hown hts hK hN hA hP hD hS hl hret
  have hown : s.vm.findClass RX5 = some m.cls := hown
  have hl : lv_has ls 3 [(0, .ref (q 0)), (1, .int p0), (2, .int p1)] := hl
  generalize hH : H0 = H at hP ⊢
  have hS : va_S A H0 H [] := by rw [← hH]; exact hS
  clear hH
  unfold f_X5_toldOfWord at hf
  refine lv_iload_n hx hb dX5_toldOfWord_0 rfl (lv_at hl 2 rfl) ?_
  refine lv_if_ne (tgt := 13) hx hb dX5_toldOfWord_1 (by decide) (fun c1 => ?_) (fun c1 => ?_)
  · rw [if_neg c1] at hf
    refine lv_iload_n hx hb dX5_toldOfWord_13 rfl (lv_at hl 2 rfl) ?_
    refine lv_iconst (v := 1) hx hb dX5_toldOfWord_14 (by decide) ?_
    refine lv_icmp_ne (tgt := 27) hx hb dX5_toldOfWord_15 (by decide) (fun c2 => ?_) (fun c2 => ?_)
    · rw [if_neg c2] at hf
      refine lv_iload_n hx hb dX5_toldOfWord_27 rfl (lv_at hl 2 rfl) ?_
      refine lv_iconst (v := 2) hx hb dX5_toldOfWord_28 (by decide) ?_
      refine lv_icmp_ne (tgt := 40) hx hb dX5_toldOfWord_29 (by decide) (fun c3 => ?_) (fun c3 => ?_)
      · rw [if_neg c3] at hf
        refine lv_bipush (v := (-2)) hx hb dX5_toldOfWord_40 (by decide) ?_
        obtain rfl := Option.some.inj hf
        exact hret rfl rfl rfl hP hD hS dX5_toldOfWord_42
      · rw [if_pos c3] at hf
        refine lv_aload_n hx hb dX5_toldOfWord_32 rfl (lv_at hl 0 rfl) ?_
        refine lv_iload_n hx hb dX5_toldOfWord_33 rfl (lv_at hl 1 rfl) ?_
        obtain ⟨o4, ho4, hf⟩ := ob_el hf
        refine kcw_i (D := D) (va_runV (As := [.int p0]) (rest := []) ⟨hx, hb, hml, hown, hts⟩ ((k_X5_rhymesOf l D K q vweight vkind vrhymes vpurse vhas vwishes vwishMany vsightLeft vsightRight vsightHow vsights vpad vpadMany vact vwho vwhich vwhom vacts vplace vopenMany vended vspoken vheaviest vheaviestWeight vhad vbadAct vbadWhy vbrings vbringsThen vkept visKept vkeptAt visWriting p0 o4 ho4) H.size) (cwV 1 hts gX5_toldOfWord_X5_rhymesOf rfl rfl rfl ⟨rfl, yd_X5_rhymesOf⟩ ⟨Nat.le_of_ble_eq_true rfl, Nat.le_of_ble_eq_true rfl⟩) (kPreV (ci := 5) (q0 := 0) hP rfl rfl hP hD hK hN) rfl rfl hl.1 rfl (lv_room (Nat.le_of_ble_eq_true rfl)) dX5_toldOfWord_34 ⟨Nat.le_of_ble_eq_true rfl, Nat.le_of_ble_eq_true rfl⟩) hD hS hA (fun hzo4 H locs hP hD hS => ?_)
        have hP : va_P D vwCl (mdW K q vweight vkind vrhymes vpurse vhas vwishes vwishMany vsightLeft vsightRight vsightHow vsights vpad vpadMany vact vwho vwhich vwhom vacts vplace vopenMany vended vspoken vheaviest vheaviestWeight vhad vbadAct vbadWhy vbrings vbringsThen vkept visKept vkeptAt visWriting) H := hP
        have hD : va_D A (mdW K q vweight vkind vrhymes vpurse vhas vwishes vwishMany vsightLeft vsightRight vsightHow vsights vpad vpadMany vact vwho vwhich vwhom vacts vplace vopenMany vended vspoken vheaviest vheaviestWeight vhad vbadAct vbadWhy vbrings vbringsThen vkept visKept vkeptAt visWriting) := hD
        refine lv_goto (tgt := 42) hx hb dX5_toldOfWord_37 (by decide) ?_
        obtain rfl := Option.some.inj hf
        exact hret rfl rfl rfl hP hD hS dX5_toldOfWord_42
    · rw [if_pos c2] at hf
      refine lv_aload_n hx hb dX5_toldOfWord_18 rfl (lv_at hl 0 rfl) ?_
      refine va_get (D := D) (ci := 5) (v := .ref (q 2)) (C := RX5) (T := TX5) (N := 33) hx hb hts inX5_toldOfWord_X5 hown hK hP 0 rfl rfl 1 (by decide) (hts (.fieldLink RX5 13 "WordScalesModel" "kind" "[I") (List.mem_of_getElem? (i := 2) rfl)) (fun _ h9 => h9) rfl dX5_toldOfWord_19 ?_
      refine lv_iload_n hx hb dX5_toldOfWord_22 rfl (lv_at hl 1 rfl) ?_
      obtain ⟨v5, hf⟩ := chk_el hf
      refine va_iald (D := D) (f := vkind) hx hb hK hP 2 0 rfl rfl v5 dX5_toldOfWord_23 ?_
      refine lv_goto (tgt := 42) hx hb dX5_toldOfWord_24 (by decide) ?_
      obtain rfl := Option.some.inj hf
      exact hret rfl rfl rfl hP hD hS dX5_toldOfWord_42
  · rw [if_pos c1] at hf
    refine lv_aload_n hx hb dX5_toldOfWord_4 rfl (lv_at hl 0 rfl) ?_
    refine va_get (D := D) (ci := 5) (v := .ref (q 1)) (C := RX5) (T := TX5) (N := 33) hx hb hts inX5_toldOfWord_X5 hown hK hP 0 rfl rfl 0 (by decide) (hts (.fieldLink RX5 7 "WordScalesModel" "weight" "[I") (List.mem_of_getElem? (i := 1) rfl)) (fun _ h9 => h9) rfl dX5_toldOfWord_5 ?_
    refine lv_iload_n hx hb dX5_toldOfWord_8 rfl (lv_at hl 1 rfl) ?_
    obtain ⟨v6, hf⟩ := chk_el hf
    refine va_iald (D := D) (f := vweight) hx hb hK hP 1 0 rfl rfl v6 dX5_toldOfWord_9 ?_
    refine lv_goto (tgt := 42) hx hb dX5_toldOfWord_10 (by decide) ?_
    obtain rfl := Option.some.inj hf
    exact hret rfl rfl rfl hP hD hS dX5_toldOfWord_42
def f_X5_told (vweight : Nat → Int32) (vkind : Nat → Int32) (vrhymes : Nat → Int32) (vpurse : Nat → Int32) (vhas : Nat → Int32) (vwishMany : Int32) (vsights : Int32) (vpadMany : Int32) (p0 : Int32) : Option (Int32) := bd (f_X5_in p0.toInt64 (100) (219)) (fun o1 => if o1 = 0 then (bd (f_X5_in p0.toInt64 (10) (13)) (fun o3 => if o3 = 0 then (bd (f_X5_in p0.toInt64 (20) (23)) (fun o5 => if o5 = 0 then (if p0 = 0 then (some vpadMany) else (if p0 = 1 then (some vwishMany) else (if p0 = 2 then (some vsights) else (some (-2))))) else (chk (p0 - 20) 4 (some (vhas ((p0 - 20)).toNatClampNeg))))) else (chk (p0 - 10) 4 (some (vpurse ((p0 - 10)).toNatClampNeg))))) else (ob (f_X5_toldOfWord vweight vkind vrhymes ((p0 - 100) / 10) (p0 - p0 / 10 * 10)) (fun o12 => some o12)))
theorem inX5_told_X5 : ∀ w ∈ wsX50, w ∈ wsX5_told := fun w h => List.mem_cons_of_mem _ (List.mem_append_right _ h)
theorem yd_X5_told : yX5_told.cls ≠ "java/lang/invoke/MethodHandle" ∧ yX5_told.cls ≠ "java/lang/invoke/VarHandle" ∧ (parseMethodDescriptor yX5_told.desc).map (fun d => d.parameters.length) = some 1 := by decide +kernel
abbrev rmX5_told : Room := { frames := 2, cells := 0, slots := 0, locals := 45 }
set_option maxHeartbeats 4000000 in
set_option maxRecDepth 100000 in
theorem k_X5_told (l : Launch) (D : va_G) (K : Nat → ClassId) (q : Nat → Nat) (vweight : Nat → Int32) (vkind : Nat → Int32) (vrhymes : Nat → Int32) (vpurse : Nat → Int32) (vhas : Nat → Int32) (vwishes : Nat → Int32) (vwishMany : Int32) (vsightLeft : Nat → Int32) (vsightRight : Nat → Int32) (vsightHow : Nat → Int32) (vsights : Int32) (vpad : Nat → Int32) (vpadMany : Int32) (vact : Nat → Int32) (vwho : Nat → Int32) (vwhich : Nat → Int32) (vwhom : Nat → Int32) (vacts : Int32) (vplace : Int32) (vopenMany : Int32) (vended : Int32) (vspoken : Int32) (vheaviest : Int32) (vheaviestWeight : Int32) (vhad : Nat → Int32) (vbadAct : Int32) (vbadWhy : Int32) (vbrings : Nat → Int64) (vbringsThen : Nat → Int64) (vkept : Nat → Int32) (visKept : Nat → Int32) (vkeptAt : Int32) (visWriting : Int32) (p0 : Int32) (out : Int32) (hf : f_X5_told vweight vkind vrhymes vpurse vhas vwishMany vsights vpadMany p0 = some out) : kI l D K .int yX5_told wsX5_told rmX5_told [.ref (q 0), .int p0] (mdW K q vweight vkind vrhymes vpurse vhas vwishes vwishMany vsightLeft vsightRight vsightHow vsights vpad vpadMany vact vwho vwhich vwhom vacts vplace vopenMany vended vspoken vheaviest vheaviestWeight vhad vbadAct vbadWhy vbrings vbringsThen vkept visKept vkeptAt visWriting) out (mdW K q vweight vkind vrhymes vpurse vhas vwishes vwishMany vsightLeft vsightRight vsightHow vsights vpad vpadMany vact vwho vwhich vwhom vacts vplace vopenMany vended vspoken vheaviest vheaviestWeight vhad vbadAct vbadWhy vbrings vbringsThen vkept visKept vkeptAt visWriting) := by
  refine kI.of (cc := cX5_told) (maxL := 2) (by decide) rfl (Nat.le_of_ble_eq_true rfl) ?_
  intro p e s m args below meth c A H0 Q ls hx hb hml hown hts hK hN hA hP hD hS hl hret
  have hown : s.vm.findClass RX5 = some m.cls := hown
  have hl : lv_has ls 2 [(0, .ref (q 0)), (1, .int p0)] := hl
  generalize hH : H0 = H at hP ⊢
  have hS : va_S A H0 H [] := by rw [← hH]; exact hS
  clear hH
  unfold f_X5_told at hf
  refine lv_iload_n hx hb dX5_told_0 rfl (lv_at hl 1 rfl) ?_
  refine lv_i2l (v := p0.toInt64) hx hb dX5_told_1 rfl ?_
  refine lv_ldc2 hx hb hown (hts (.constantLong RX5 276 (100)) (List.mem_of_getElem? (i := 1) rfl)) dX5_told_2 ?_
  refine lv_ldc2 hx hb hown (hts (.constantLong RX5 278 (219)) (List.mem_of_getElem? (i := 2) rfl)) dX5_told_5 ?_
  obtain ⟨o1, ho1, hf⟩ := bd_el hf
  refine kc0_i (D := D) (va_runS (As := [.long p0.toInt64, .long 100, .long 219]) (rest := []) ⟨hx, hb, hml, hown, hts⟩ ((k_X5_in l D K p0.toInt64 (100) (219) o1 ho1) H.size) (va_cwS 3 hts gX5_told_X5_in rfl rfl rfl yd_X5_in ⟨Nat.le_of_ble_eq_true rfl, Nat.le_of_ble_eq_true rfl⟩) (kPreS va_P_nil (va_D_nil (A := fun _ => True)) hK hN) rfl rfl hl.1 rfl (lv_room (Nat.le_of_ble_eq_true rfl)) dX5_told_8 ⟨Nat.le_of_ble_eq_true rfl, Nat.le_of_ble_eq_true rfl⟩) hP hS hA (fun hzo1 H locs hP hS => ?_)
  refine lv_if_eq (tgt := 30) hx hb dX5_told_11 (by decide) (fun c2 => ?_) (fun c2 => ?_)
  · rw [if_pos c2] at hf
    refine lv_iload_n hx hb dX5_told_30 rfl (lv_at hl 1 rfl) ?_
    refine lv_i2l (v := p0.toInt64) hx hb dX5_told_31 rfl ?_
    refine lv_ldc2 hx hb hown (hts (.constantLong RX5 238 (10)) (List.mem_of_getElem? (i := 3) rfl)) dX5_told_32 ?_
    refine lv_ldc2 hx hb hown (hts (.constantLong RX5 283 (13)) (List.mem_of_getElem? (i := 4) rfl)) dX5_told_35 ?_
    obtain ⟨o3, ho3, hf⟩ := bd_el hf
    refine kc0_i (D := D) (va_runS (As := [.long p0.toInt64, .long 10, .long 13]) (rest := []) ⟨hx, hb, hml, hown, hts⟩ ((k_X5_in l D K p0.toInt64 (10) (13) o3 ho3) H.size) (va_cwS 3 hts gX5_told_X5_in rfl rfl rfl yd_X5_in ⟨Nat.le_of_ble_eq_true rfl, Nat.le_of_ble_eq_true rfl⟩) (kPreS va_P_nil (va_D_nil (A := fun _ => True)) hK hN) rfl rfl hl.1 rfl (lv_room (Nat.le_of_ble_eq_true rfl)) dX5_told_38 ⟨Nat.le_of_ble_eq_true rfl, Nat.le_of_ble_eq_true rfl⟩) hP hS hA (fun hzo3 H locs hP hS => ?_)
    refine lv_if_eq (tgt := 54) hx hb dX5_told_41 (by decide) (fun c4 => ?_) (fun c4 => ?_)
    · rw [if_pos c4] at hf
      refine lv_iload_n hx hb dX5_told_54 rfl (lv_at hl 1 rfl) ?_
      refine lv_i2l (v := p0.toInt64) hx hb dX5_told_55 rfl ?_
      refine lv_ldc2 hx hb hown (hts (.constantLong RX5 246 (20)) (List.mem_of_getElem? (i := 6) rfl)) dX5_told_56 ?_
      refine lv_ldc2 hx hb hown (hts (.constantLong RX5 285 (23)) (List.mem_of_getElem? (i := 7) rfl)) dX5_told_59 ?_
      obtain ⟨o5, ho5, hf⟩ := bd_el hf
      refine kc0_i (D := D) (va_runS (As := [.long p0.toInt64, .long 20, .long 23]) (rest := []) ⟨hx, hb, hml, hown, hts⟩ ((k_X5_in l D K p0.toInt64 (20) (23) o5 ho5) H.size) (va_cwS 3 hts gX5_told_X5_in rfl rfl rfl yd_X5_in ⟨Nat.le_of_ble_eq_true rfl, Nat.le_of_ble_eq_true rfl⟩) (kPreS va_P_nil (va_D_nil (A := fun _ => True)) hK hN) rfl rfl hl.1 rfl (lv_room (Nat.le_of_ble_eq_true rfl)) dX5_told_62 ⟨Nat.le_of_ble_eq_true rfl, Nat.le_of_ble_eq_true rfl⟩) hP hS hA (fun hzo5 H locs hP hS => ?_)
      refine lv_if_eq (tgt := 78) hx hb dX5_told_65 (by decide) (fun c6 => ?_) (fun c6 => ?_)
      · rw [if_pos c6] at hf
        refine lv_iload_n hx hb dX5_told_78 rfl (lv_at hl 1 rfl) ?_
        refine lv_if_ne (tgt := 89) hx hb dX5_told_79 (by decide) (fun c7 => ?_) (fun c7 => ?_)
        · rw [if_neg c7] at hf
          refine lv_iload_n hx hb dX5_told_89 rfl (lv_at hl 1 rfl) ?_
          refine lv_iconst (v := 1) hx hb dX5_told_90 (by decide) ?_
          refine lv_icmp_ne (tgt := 101) hx hb dX5_told_91 (by decide) (fun c8 => ?_) (fun c8 => ?_)
          · rw [if_neg c8] at hf
            refine lv_iload_n hx hb dX5_told_101 rfl (lv_at hl 1 rfl) ?_
            refine lv_iconst (v := 2) hx hb dX5_told_102 (by decide) ?_
            refine lv_icmp_ne (tgt := 113) hx hb dX5_told_103 (by decide) (fun c9 => ?_) (fun c9 => ?_)
            · rw [if_neg c9] at hf
              refine lv_bipush (v := (-2)) hx hb dX5_told_113 (by decide) ?_
              obtain rfl := Option.some.inj hf
              exact hret rfl rfl rfl hP hD hS dX5_told_115
            · rw [if_pos c9] at hf
              refine lv_aload_n hx hb dX5_told_106 rfl (lv_at hl 0 rfl) ?_
              refine va_get (D := D) (ci := 5) (v := .int vsights) (C := RX5) (T := TX5) (N := 33) hx hb hts inX5_told_X5 hown hK hP 0 rfl rfl 10 (by decide) (hts (.fieldLink RX5 224 "WordScalesModel" "sights" "I") (List.mem_of_getElem? (i := 11) rfl)) (fun _ h9 => h9) rfl dX5_told_107 ?_
              refine lv_goto (tgt := 115) hx hb dX5_told_110 (by decide) ?_
              obtain rfl := Option.some.inj hf
              exact hret rfl rfl rfl hP hD hS dX5_told_115
          · rw [if_pos c8] at hf
            refine lv_aload_n hx hb dX5_told_94 rfl (lv_at hl 0 rfl) ?_
            refine va_get (D := D) (ci := 5) (v := .int vwishMany) (C := RX5) (T := TX5) (N := 33) hx hb hts inX5_told_X5 hown hK hP 0 rfl rfl 6 (by decide) (hts (.fieldLink RX5 218 "WordScalesModel" "wishMany" "I") (List.mem_of_getElem? (i := 10) rfl)) (fun _ h9 => h9) rfl dX5_told_95 ?_
            refine lv_goto (tgt := 115) hx hb dX5_told_98 (by decide) ?_
            obtain rfl := Option.some.inj hf
            exact hret rfl rfl rfl hP hD hS dX5_told_115
        · rw [if_pos c7] at hf
          refine lv_aload_n hx hb dX5_told_82 rfl (lv_at hl 0 rfl) ?_
          refine va_get (D := D) (ci := 5) (v := .int vpadMany) (C := RX5) (T := TX5) (N := 33) hx hb hts inX5_told_X5 hown hK hP 0 rfl rfl 12 (by decide) (hts (.fieldLink RX5 106 "WordScalesModel" "padMany" "I") (List.mem_of_getElem? (i := 9) rfl)) (fun _ h9 => h9) rfl dX5_told_83 ?_
          refine lv_goto (tgt := 115) hx hb dX5_told_86 (by decide) ?_
          obtain rfl := Option.some.inj hf
          exact hret rfl rfl rfl hP hD hS dX5_told_115
      · rw [if_neg c6] at hf
        refine lv_aload_n hx hb dX5_told_68 rfl (lv_at hl 0 rfl) ?_
        refine va_get (D := D) (ci := 5) (v := .ref (q 5)) (C := RX5) (T := TX5) (N := 33) hx hb hts inX5_told_X5 hown hK hP 0 rfl rfl 4 (by decide) (hts (.fieldLink RX5 22 "WordScalesModel" "has" "[I") (List.mem_of_getElem? (i := 8) rfl)) (fun _ h9 => h9) rfl dX5_told_69 ?_
        refine lv_iload_n hx hb dX5_told_72 rfl (lv_at hl 1 rfl) ?_
        refine lv_bipush (v := 20) hx hb dX5_told_73 (by decide) ?_
        refine lv_isub hx hb dX5_told_75 ?_
        obtain ⟨v10, hf⟩ := chk_el hf
        refine va_iald (D := D) (f := vhas) hx hb hK hP 5 0 rfl rfl v10 dX5_told_76 ?_
        obtain rfl := Option.some.inj hf
        exact hret rfl rfl rfl hP hD hS dX5_told_77
    · rw [if_neg c4] at hf
      refine lv_aload_n hx hb dX5_told_44 rfl (lv_at hl 0 rfl) ?_
      refine va_get (D := D) (ci := 5) (v := .ref (q 4)) (C := RX5) (T := TX5) (N := 33) hx hb hts inX5_told_X5 hown hK hP 0 rfl rfl 3 (by decide) (hts (.fieldLink RX5 19 "WordScalesModel" "purse" "[I") (List.mem_of_getElem? (i := 5) rfl)) (fun _ h9 => h9) rfl dX5_told_45 ?_
      refine lv_iload_n hx hb dX5_told_48 rfl (lv_at hl 1 rfl) ?_
      refine lv_bipush (v := 10) hx hb dX5_told_49 (by decide) ?_
      refine lv_isub hx hb dX5_told_51 ?_
      obtain ⟨v11, hf⟩ := chk_el hf
      refine va_iald (D := D) (f := vpurse) hx hb hK hP 4 0 rfl rfl v11 dX5_told_52 ?_
      obtain rfl := Option.some.inj hf
      exact hret rfl rfl rfl hP hD hS dX5_told_53
  · rw [if_neg c2] at hf
    refine lv_aload_n hx hb dX5_told_14 rfl (lv_at hl 0 rfl) ?_
    refine lv_iload_n hx hb dX5_told_15 rfl (lv_at hl 1 rfl) ?_
    refine lv_bipush (v := 100) hx hb dX5_told_16 (by decide) ?_
    refine lv_isub hx hb dX5_told_18 ?_
    refine lv_bipush (v := 10) hx hb dX5_told_19 (by decide) ?_
    refine lv_idiv hx hb dX5_told_21 (by decide) ?_
    refine lv_iload_n hx hb dX5_told_22 rfl (lv_at hl 1 rfl) ?_
    refine lv_bipush (v := 10) hx hb dX5_told_23 (by decide) ?_
    refine lv_irem hx hb dX5_told_25 (by decide) ?_
    obtain ⟨o12, ho12, hf⟩ := ob_el hf
    refine kcw_i (D := D) (va_runV (As := [.int ((p0 - 100) / 10), .int (p0 - p0 / 10 * 10)]) (rest := []) ⟨hx, hb, hml, hown, hts⟩ ((k_X5_toldOfWord l D K q vweight vkind vrhymes vpurse vhas vwishes vwishMany vsightLeft vsightRight vsightHow vsights vpad vpadMany vact vwho vwhich vwhom vacts vplace vopenMany vended vspoken vheaviest vheaviestWeight vhad vbadAct vbadWhy vbrings vbringsThen vkept visKept vkeptAt visWriting ((p0 - 100) / 10) (p0 - p0 / 10 * 10) o12 ho12) H.size) (cwV 2 hts gX5_told_X5_toldOfWord rfl rfl rfl ⟨rfl, yd_X5_toldOfWord⟩ ⟨Nat.le_of_ble_eq_true rfl, Nat.le_of_ble_eq_true rfl⟩) (kPreV (ci := 5) (q0 := 0) hP rfl rfl hP hD hK hN) rfl rfl hl.1 rfl (lv_room (Nat.le_of_ble_eq_true rfl)) dX5_told_26 ⟨Nat.le_of_ble_eq_true rfl, Nat.le_of_ble_eq_true rfl⟩) hD hS hA (fun hzo12 H locs hP hD hS => ?_)
    have hP : va_P D vwCl (mdW K q vweight vkind vrhymes vpurse vhas vwishes vwishMany vsightLeft vsightRight vsightHow vsights vpad vpadMany vact vwho vwhich vwhom vacts vplace vopenMany vended vspoken vheaviest vheaviestWeight vhad vbadAct vbadWhy vbrings vbringsThen vkept visKept vkeptAt visWriting) H := hP
    have hD : va_D A (mdW K q vweight vkind vrhymes vpurse vhas vwishes vwishMany vsightLeft vsightRight vsightHow vsights vpad vpadMany vact vwho vwhich vwhom vacts vplace vopenMany vended vspoken vheaviest vheaviestWeight vhad vbadAct vbadWhy vbrings vbringsThen vkept visKept vkeptAt visWriting) := hD
    obtain rfl := Option.some.inj hf
    exact hret rfl rfl rfl hP hD hS dX5_told_29
