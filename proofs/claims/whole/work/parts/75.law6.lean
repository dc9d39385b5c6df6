set_option maxHeartbeats 4000000 in
set_option maxRecDepth 100000 in
theorem nestL_in : ∀ w ∈ nestL, w ∈ lw_tbl := memP [92, 93, 95, 96, 98, 100, 102, 104, 106, 108, 110, 112, 114, 156, 158, 160, 162, 182, 189, 192, 194, 196, 198, 200, 202, 204, 206, 87, 142, 147, 150, 176, 268, 272, 273, 286, 312, 320, 324, 327, 331, 335, 347, 356, 361, 373, 381, 382, 386, 410, 438, 443, 457, 477, 478, 490, 494, 515, 531, 572, 581] rfl
theorem and31_ex (x : Int32) : ∃ d : Nat, d < 32 ∧ x &&& 31 = nI d := by
  have e : x = nI x.toBitVec.toNat := by
    apply Int32.toBitVec_inj.1
    show x.toBitVec = BitVec.ofNat 32 x.toBitVec.toNat
    rw [BitVec.ofNat_toNat, BitVec.setWidth_eq]
  refine ⟨x.toBitVec.toNat &&& 31, Nat.lt_of_le_of_lt Nat.and_le_right (by decide), ?_⟩
  exact (congrArg (fun y => y &&& 31) e).trans (fa_and _ 31)
def ixA : List Nat → Nat → Nat
  | [], _ => 0
  | x :: _, 0 => x
  | _ :: l, n + 1 => ixA l n
section ZC
variable {p : Program} {l : Launch} {e : Env} {s : State} {m : MethodId} {below : List Frame} {meth : Method} {c : Code} {b L : Nat} {xs : Nat → Int32} {D : va_G} {K : Nat → ClassId} {a qs qy qd qm : Nat → Nat}
set_option maxHeartbeats 4000000 in
set_option maxRecDepth 100000 in
theorem law_loop (C : LC p s m c b L xs D K (fun q : Nat => s.heap.size ≤ q)) (hr : meth.sig.returnType = ret) (hlocks : meth.locks = false) : ∀ (n i : Nat), i ≤ L + 6 → L + 7 ≤ i + n → ∀ (I : Nat → Int32) (F : Nat → Nat → Int32) (G : Nat → Nat → Int64) (f : Nat → Option Nat) (T0 T1 : va_W) (H : Heap) (locs : List Loc) (cells slots : Nat) (ls : Array Slot), cells ≤ 100 + 10 * i → slots ≤ 2000 + 81 * i → LI K I F f T0 T1 → va_P D vwCl (lwX K a qs qy qd qm I F G f ++ (T0 ++ T1)) H → va_D (fun q : Nat => s.heap.size ≤ q) (lwX K a qs qy qd qm I F G f ++ (T0 ++ T1)) → va_S (fun q : Nat => s.heap.size ≤ q) s.heap H locs → lv_has ls 4 (lcl b a qm i) → W p l e room_1 s m #[.ref b] below meth c H locs cells slots (lw_Z below #[Value.ref b] s) (F0 m 18 ls []) := by
  have C0 := C
  obtain ⟨hx, hb, hml, hown, hts, hK, hN, hA, hX, hbl, hbA, hLL⟩ := C
  intro n
  induction n with
  | zero =>
    intro i h1 h2
    exact absurd h2 (by omega)
  | succ n ih =>
    intro i hi hin I F G f T0 T1 H locs cells slots ls hc hs inv hP hD hS hl
    refine lv_iload_n hx hb dL_law_18 rfl (lv_at hl 3 rfl) ?_
    refine lv_aload_n hx hb dL_law_19 rfl (lv_at hl 0 rfl) ?_
    refine va_slen hx hb hX hbl hbA hS dL_law_20 ?_
    refine lv_bipush (v := 6) hx hb dL_law_21 (by decide) ?_
    refine lv_isub hx hb dL_law_23 ?_
    refine lv_icmp_gt (tgt := 989) hx hb dL_law_24 (by decide) (fun c1 => ?_) (fun c1 => ?_)
    · refine lv_iconst (v := 1) hx hb dL_law_989 (by decide) ?_
      refine va_forget (fun q hq => hS.2.2 q hq) ?_
      refine W.widen (k := 600000) (n := 7302250) (by omega) (by omega) ?_
      exact lw_ret hx hb hr hlocks dL_law_990
    · have hle : i + 6 ≤ L := by
        rcases Nat.lt_or_ge L (i + 6) with q | q
        · refine absurd ?_ c1
          by_cases h6 : 6 ≤ L
          · rw [show Int32.ofNat L - 6 = nI (L - 6) from pk_sub (a := L) (b := 6) h6]
            exact nI_lt (by omega) (by omega)
          · have : ∀ L : Nat, L < 6 → ∀ i : Nat, i ≤ 12 → (Int32.ofNat L - 6 : Int32) < nI i := by decide +kernel
            exact this L (by omega) i (by omega)
        · exact q
      refine lv_aload_n hx hb dL_law_27 rfl (lv_at hl 0 rfl) ?_
      refine lv_iload_n hx hb dL_law_28 rfl (lv_at hl 3 rfl) ?_
      refine va_sld hx hb hX hbl hbA hS (vp_in_nI (by omega) (by omega)) dL_law_29 ?_
      refine lv_bipush (v := 31) hx hb dL_law_30 (by decide) ?_
      refine lv_iand hx hb dL_law_32 ?_
      have kk : KK p l e s m below meth c b D K (fun q : Nat => s.heap.size ≤ q) a qs qy qd qm i cells slots (lw_Z below #[Value.ref b] s) := by
        intro I F G f T0 T1 H locs cells1 slots1 ls inv hP hD hS hl h1 h2
        refine lv_iinc (v := nI (i + 6)) (lv' := [(3, .int (nI (i + 6))), (0, .ref b), (1, .ref (a 0)), (2, .ref (qm 0))]) hx hb dL_law_983 hl (k := 3) rfl (nI_add i 6) (by decide) rfl (fun ls hl => ?_)
        refine lv_goto (tgt := 18) hx hb dL_law_986 (by decide) ?_
        exact ih (i + 6) (by omega) (by omega) I F G f T0 T1 H locs cells1 slots1 ls (by omega) (by omega) inv hP hD hS (lv_sub hl [1, 2, 3, 0] rfl)
      have hi5 : i + 5 < L := by omega
      have hc5 : cells ≤ 500000 := by omega
      have hs5 : slots ≤ 7000000 := by omega
      obtain ⟨d, hd, ed⟩ := and31_ex (xs (nI i).toNatClampNeg)
      rw [ed]
      rcases (show d = 0 ∨ d = 1 ∨ d = 2 ∨ d = 3 ∨ d = 4 ∨ d = 5 ∨ d = 6 ∨ d = 7 ∨ d = 8 ∨ d = 9 ∨ d = 10 ∨ d = 11 ∨ d = 12 ∨ d = 13 ∨ d = 14 ∨ d = 15 ∨ d = 16 ∨ d = 17 ∨ d = 18 ∨ d = 19 ∨ d = 20 ∨ d = 21 ∨ d = 22 ∨ d = 23 ∨ d = 24 ∨ d = 25 ∨ d = 26 ∨ d = 27 ∨ d = 28 ∨ 29 ≤ d by omega) with rfl | rfl | rfl | rfl | rfl | rfl | rfl | rfl | rfl | rfl | rfl | rfl | rfl | rfl | rfl | rfl | rfl | rfl | rfl | rfl | rfl | rfl | rfl | rfl | rfl | rfl | rfl | rfl | rfl | h29
      · exact lv_tableIn hx hb dL_law_33 (by decide) (by decide) (off := 131) rfl (tgt := 164) (by decide) (lc_0 C0 hi5 hc5 hs5 inv hP hD hS hl kk)
      · exact lv_tableIn hx hb dL_law_33 (by decide) (by decide) (off := 174) rfl (tgt := 207) (by decide) (lc_1 C0 hi5 hc5 hs5 inv hP hD hS hl kk)
      · exact lv_tableIn hx hb dL_law_33 (by decide) (by decide) (off := 207) rfl (tgt := 240) (by decide) (lc_2 C0 hi5 hc5 hs5 inv hP hD hS hl kk)
      · exact lv_tableIn hx hb dL_law_33 (by decide) (by decide) (off := 230) rfl (tgt := 263) (by decide) (lc_3 C0 hi5 hc5 hs5 inv hP hD hS hl kk)
      · exact lv_tableIn hx hb dL_law_33 (by decide) (by decide) (off := 273) rfl (tgt := 306) (by decide) (lc_4 C0 hi5 hc5 hs5 inv hP hD hS hl kk)
      · exact lv_tableIn hx hb dL_law_33 (by decide) (by decide) (off := 296) rfl (tgt := 329) (by decide) (lc_5 C0 hi5 hc5 hs5 inv hP hD hS hl kk)
      · exact lv_tableIn hx hb dL_law_33 (by decide) (by decide) (off := 309) rfl (tgt := 342) (by decide) (lc_6 C0 hi5 hc5 hs5 inv hP hD hS hl kk)
      · exact lv_tableIn hx hb dL_law_33 (by decide) (by decide) (off := 322) rfl (tgt := 355) (by decide) (lc_7 C0 hi5 hc5 hs5 inv hP hD hS hl kk)
      · exact lv_tableIn hx hb dL_law_33 (by decide) (by decide) (off := 345) rfl (tgt := 378) (by decide) (lc_8 C0 hi5 hc5 hs5 inv hP hD hS hl kk)
      · exact lv_tableIn hx hb dL_law_33 (by decide) (by decide) (off := 378) rfl (tgt := 411) (by decide) (lc_9 C0 hi5 hc5 hs5 inv hP hD hS hl kk)
      · exact lv_tableIn hx hb dL_law_33 (by decide) (by decide) (off := 401) rfl (tgt := 434) (by decide) (lc_10 C0 hi5 hc5 hs5 inv hP hD hS hl kk)
      · exact lv_tableIn hx hb dL_law_33 (by decide) (by decide) (off := 424) rfl (tgt := 457) (by decide) (lc_11 C0 hi5 hc5 hs5 inv hP hD hS hl kk)
      · exact lv_tableIn hx hb dL_law_33 (by decide) (by decide) (off := 437) rfl (tgt := 470) (by decide) (lc_12 C0 hi5 hc5 hs5 inv hP hD hS hl kk)
      · exact lv_tableIn hx hb dL_law_33 (by decide) (by decide) (off := 460) rfl (tgt := 493) (by decide) (lc_13 C0 hi5 hc5 hs5 inv hP hD hS hl kk)
      · exact lv_tableIn hx hb dL_law_33 (by decide) (by decide) (off := 494) rfl (tgt := 527) (by decide) (lc_14 C0 hi5 hc5 hs5 inv hP hD hS hl kk)
      · exact lv_tableIn hx hb dL_law_33 (by decide) (by decide) (off := 537) rfl (tgt := 570) (by decide) (lc_15 C0 hi5 hc5 hs5 inv hP hD hS hl kk)
      · exact lv_tableIn hx hb dL_law_33 (by decide) (by decide) (off := 570) rfl (tgt := 603) (by decide) (lc_16 C0 hi5 hc5 hs5 inv hP hD hS hl kk)
      · exact lv_tableIn hx hb dL_law_33 (by decide) (by decide) (off := 593) rfl (tgt := 626) (by decide) (lc_17 C0 hi5 hc5 hs5 inv hP hD hS hl kk)
      · exact lv_tableIn hx hb dL_law_33 (by decide) (by decide) (off := 606) rfl (tgt := 639) (by decide) (lc_18 C0 hi5 hc5 hs5 inv hP hD hS hl kk)
      · exact lv_tableIn hx hb dL_law_33 (by decide) (by decide) (off := 629) rfl (tgt := 662) (by decide) (lc_19 C0 hi5 hc5 hs5 inv hP hD hS hl kk)
      · exact lv_tableIn hx hb dL_law_33 (by decide) (by decide) (off := 672) rfl (tgt := 705) (by decide) (lc_20 C0 hi5 hc5 hs5 inv hP hD hS hl kk)
      · exact lv_tableIn hx hb dL_law_33 (by decide) (by decide) (off := 685) rfl (tgt := 718) (by decide) (lc_21 C0 hi5 hc5 hs5 inv hP hD hS hl kk)
      · exact lv_tableIn hx hb dL_law_33 (by decide) (by decide) (off := 698) rfl (tgt := 731) (by decide) (lc_22 C0 hi5 hc5 hs5 inv hP hD hS hl kk)
      · exact lv_tableIn hx hb dL_law_33 (by decide) (by decide) (off := 721) rfl (tgt := 754) (by decide) (lc_23 C0 hi5 hc5 hs5 inv hP hD hS hl kk)
      · exact lv_tableIn hx hb dL_law_33 (by decide) (by decide) (off := 785) rfl (tgt := 818) (by decide) (lc_24 C0 hi5 hc5 hs5 inv hP hD hS hl kk)
      · exact lv_tableIn hx hb dL_law_33 (by decide) (by decide) (off := 838) rfl (tgt := 871) (by decide) (lc_25 C0 hi5 hc5 hs5 inv hP hD hS hl kk)
      · exact lv_tableIn hx hb dL_law_33 (by decide) (by decide) (off := 881) rfl (tgt := 914) (by decide) (lc_26 C0 hi5 hc5 hs5 inv hP hD hS hl kk)
      · exact lv_tableIn hx hb dL_law_33 (by decide) (by decide) (off := 904) rfl (tgt := 937) (by decide) (lc_27 C0 hi5 hc5 hs5 inv hP hD hS hl kk)
      · exact lv_tableIn hx hb dL_law_33 (by decide) (by decide) (off := 927) rfl (tgt := 960) (by decide) (lc_28 C0 hi5 hc5 hs5 inv hP hD hS hl kk)
      · refine lv_tableOut hx hb dL_law_33 (Or.inr ?_) (tgt := 983) (by decide) ?_
        · rw [nI_toInt (by omega)]
          omega
        · exact kk I F G f T0 T1 H locs cells slots ls inv hP hD hS hl (Nat.le_add_right _ _) (Nat.le_add_right _ _)
end ZC
