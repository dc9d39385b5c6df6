/-! the law: its world, its invariant, its calls -/
def ixI : List Int32 → Nat → Int32
  | [], _ => 0
  | x :: _, 0 => x
  | _ :: l, n + 1 => ixI l n
def ixF : List (Nat → Int32) → Nat → Nat → Int32
  | [], _ => fun _ => 0
  | x :: _, 0 => x
  | _ :: l, n + 1 => ixF l n
def ixG : List (Nat → Int64) → Nat → Nat → Int64
  | [], _ => fun _ => 0
  | x :: _, 0 => x
  | _ :: l, n + 1 => ixG l n
def lwX (K : Nat → ClassId) (a qs qy qd qm : Nat → Nat) (I : Nat → Int32) (F : Nat → Nat → Int32) (G : Nat → Nat → Int64) (f : Nat → Option Nat) : va_W := ((xoW (a 0) (qs 0) (qy 0) (a 1) (a 2) (a 3) (a 6) (I 0)) ++ ((shW K qs (F 0) (F 1) (F 2) (F 3) (F 4) (F 5) (I 1) (F 6) (F 7) (F 8) (I 2)) ++ ((shW K qy (F 9) (F 10) (F 11) (F 12) (F 13) (F 14) (I 3) (F 15) (F 16) (F 17) (I 4)) ++ ((imW K (a 1) f) ++ ((iaW K (a 2) 60 (F 27)) ++ ((dyW (a 3) (qd 0) (a 4) (a 5) (I 5) (I 6) (I 7) (I 8) (I 9) (I 10) (I 11) (I 12)) ++ ((shW K qd (F 18) (F 19) (F 20) (F 21) (F 22) (F 23) (I 13) (F 24) (F 25) (F 26) (I 14)) ++ ((rdW (a 4) (I 15) (I 16) (I 17) (I 18) (I 19)) ++ ((rwW (a 5) (I 20) (I 21)) ++ ((laW K (a 6) 49 (G 0)) ++ (mdW K qm (F 28) (F 29) (F 30) (F 31) (F 32) (F 33) (I 22) (F 34) (F 35) (F 36) (I 23) (F 37) (I 24) (F 38) (F 39) (F 40) (F 41) (I 25) (I 26) (I 27) (I 28) (I 29) (I 30) (I 31) (F 42) (I 32) (I 33) (G 1) (G 2) (F 43) (F 44) (I 34) (I 35))))))))))))
/-- an image: not kept, or kept by both -/
def IM (K : Nat → ClassId) (k : Nat) (f : Nat → Option Nat) (isk kept : Nat → Int32) (T : va_W) : Prop := (f k = none ∧ isk k = 0 ∧ T = []) ∨ ∃ (q : Nat → Nat) (w kd r p b wi : Nat → Int32) (wc : Int32) (lf ri o : Nat → Int32) (sc : Int32) (S : Nat → Nat → Nat), f k = some (q 0) ∧ ¬ isk k = 0 ∧ T = shW K q w kd r p b wi wc lf ri o sc ∧ okS S ∧ XA S w kd r p b wi wc lf ri o sc ∧ KM S (90 * k) kept
def LI (K : Nat → ClassId) (I : Nat → Int32) (F : Nat → Nat → Int32) (f : Nat → Option Nat) (T0 T1 : va_W) : Prop := ∃ (S : Nat → Nat → Nat) (n : Nat) (sg : Nat → Nat), okS S ∧ XA S (F 0) (F 1) (F 2) (F 3) (F 4) (F 5) (I 1) (F 6) (F 7) (F 8) (I 2) ∧ MA S (F 28) (F 29) (F 30) (F 31) (F 32) (F 33) (I 22) (F 34) (F 35) (F 36) (I 23) ∧ PA n sg (I 0) (F 27) ∧ PA n sg (I 24) (F 37) ∧ RD (I 17) (I 18) (I 19) ∧ IM K 0 f (F 44) (F 43) T0 ∧ IM K 1 f (F 44) (F 43) T1
def lcl (b : Nat) (a qm : Nat → Nat) (i : Nat) : List (Nat × Value) := [(0, .ref b), (1, .ref (a 0)), (2, .ref (qm 0)), (3, .int (nI i))]
def LC (p : Program) (s : State) (m : MethodId) (c : Code) (b L : Nat) (xs : Nat → Int32) (D : va_G) (K : Nat → ClassId) (A : Nat → Prop) : Prop := p.tables.exec = Jvm.exec ∧ c.code = code ∧ c.maxLocals = 4 ∧ s.vm.findClass RL = some m.cls ∧ (∀ w ∈ wsL_law, w.before #[.ref b] s = true) ∧ va_K D vwCl (TY K) s ∧ (∀ w ∈ nestL, va_Nw w s) ∧ (∀ q : Nat, s.heap.size ≤ q → A q) ∧ va_X b L xs s s.heap ∧ b < s.heap.size ∧ ¬ A b ∧ L ≤ 384
def KK (p : Program) (l : Launch) (e : Env) (s : State) (m : MethodId) (below : List Frame) (meth : Method) (c : Code) (b : Nat) (D : va_G) (K : Nat → ClassId) (A : Nat → Prop) (a qs qy qd qm : Nat → Nat) (i cells slots : Nat) (Q : State → Prop) : Prop := ∀ (I : Nat → Int32) (F : Nat → Nat → Int32) (G : Nat → Nat → Int64) (f : Nat → Option Nat) (T0 T1 : va_W) (H : Heap) (locs : List Loc) (cells1 slots1 : Nat) (ls : Array Slot), LI K I F f T0 T1 → va_P D vwCl (lwX K a qs qy qd qm I F G f ++ (T0 ++ T1)) H → va_D A (lwX K a qs qy qd qm I F G f ++ (T0 ++ T1)) → va_S A s.heap H locs → lv_has ls 4 (lcl b a qm i) → cells1 ≤ cells + 10 → slots1 ≤ slots + 81 → W p l e room_1 s m #[.ref b] below meth c H locs cells1 slots1 Q (F0 m 983 ls [])
section ZL
variable {p : Program} {l : Launch} {e : Env} {rm : Room} {s : State} {m : MethodId} {args : Array Value} {below : List Frame} {meth : Method} {c : Code} {D : va_G} {K : Nat → ClassId} {H H0 : Heap} {locs : List Loc} {cells slots : Nat} {Q : State → Prop} {pc : Nat} {ls : Array Slot} {rest st0 : List Value} {A : Nat → Prop} {a : Array Value}
theorem tail_free {X wc T : va_W} (hD : va_D A (X ++ T)) (hS : va_S A H0 H locs) (hA : ∀ q : Nat, H0.size ≤ q → A q) (isC : List Nat) (hC : isC.map (fun i => X[i]?) = wc.map some) : ∀ q, va_A wc H.size q → A q := by
  intro q h
  rcases h with ⟨k, e, h⟩ | h
  · refine va_freeP (cx := wc) (pl := T) hD hS hA isC hC q (Or.inl ⟨k, e, ?_⟩)
    rw [List.getElem?_append_left (List.getElem?_eq_some_iff.mp h).1]
    exact h
  · exact va_freeP (cx := wc) (pl := T) hD hS hA isC hC q (Or.inr h)
theorem kct_i {X wc wc' wr X2 T : va_W} {v : Int32} {ty : FieldType} (hr : va_Run p l e rm s m args below meth c H locs cells slots 0 0 (F0 m pc ls st0) rest (va_Qi (fun (r : Int32) (_ : Unit) => r = v ∧ narrow ty (.int r) = .int r) (kB D wc wc' H.size) (va_A wc H.size) a) (va_A wc H.size)) (hP : va_P D vwCl (X ++ T) H) (hD : va_D A (X ++ T)) (hS : va_S A H0 H locs) (hA : ∀ q : Nat, H0.size ≤ q → A q) (isC isR perm : List Nat) (hC : isC.map (fun i => X[i]?) = wc.map some) (hR : isR.map (fun i => X[i]?) = wr.map some) (hn : va_nd isR = true) (hdis : ∀ i ∈ isR, i ∉ isC) (hp : perm.map (fun i => (wr ++ wc')[i]?) = X2.map some) (hpn : va_nd perm = true)
    (kk : ∀ (H1 : Heap) (locs1 : List Loc), va_P D vwCl (X2 ++ T) H1 → va_D A (X2 ++ T) → va_S A H0 H1 locs1 → W p l e rm s m args below meth c H1 locs1 cells slots Q (F0 m (pc + 3) ls (.int v :: rest))) : W p l e rm s m args below meth c H locs cells slots Q (F0 m pc ls st0) := by
  have hF : ∀ q, va_A wc H.size q → A q := tail_free hD hS hA isC hC
  refine va_calli hr hS (fun q _ h => hF q h) hF (fun r u t H1 locs1 ht hvm hw hB hz1 hk1 hS1 => ?_)
  obtain ⟨hP1, hD1⟩ := hB
  rw [ht] at hP1
  obtain ⟨hw, hz⟩ := hw
  subst hw
  obtain ⟨a1, a2⟩ := va_joinQ (wr := wr) (w1 := wc') hP hD isC isR hC hR hn hdis hk1 hF hP1 hD1
  exact kk H1 locs1 (a1.by _ (va_part perm hp)) (a2.part perm hpn hp) hS1
theorem kct_l {X wc wc' wr X2 T : va_W} {v : Int64} (hr : va_Run p l e rm s m args below meth c H locs cells slots 0 0 (F0 m pc ls st0) rest (va_Ql (fun (r : Int64) (_ : Unit) => r = v) (kB D wc wc' H.size) (va_A wc H.size) a) (va_A wc H.size)) (hP : va_P D vwCl (X ++ T) H) (hD : va_D A (X ++ T)) (hS : va_S A H0 H locs) (hA : ∀ q : Nat, H0.size ≤ q → A q) (isC isR perm : List Nat) (hC : isC.map (fun i => X[i]?) = wc.map some) (hR : isR.map (fun i => X[i]?) = wr.map some) (hn : va_nd isR = true) (hdis : ∀ i ∈ isR, i ∉ isC) (hp : perm.map (fun i => (wr ++ wc')[i]?) = X2.map some) (hpn : va_nd perm = true)
    (kk : ∀ (H1 : Heap) (locs1 : List Loc), va_P D vwCl (X2 ++ T) H1 → va_D A (X2 ++ T) → va_S A H0 H1 locs1 → W p l e rm s m args below meth c H1 locs1 cells slots Q (F0 m (pc + 3) ls (.long v :: rest))) : W p l e rm s m args below meth c H locs cells slots Q (F0 m pc ls st0) := by
  have hF : ∀ q, va_A wc H.size q → A q := tail_free hD hS hA isC hC
  refine va_calll hr hS (fun q _ h => hF q h) hF (fun r u t H1 locs1 ht hvm hw hB hz1 hk1 hS1 => ?_)
  obtain ⟨hP1, hD1⟩ := hB
  rw [ht] at hP1
  subst hw
  obtain ⟨a1, a2⟩ := va_joinQ (wr := wr) (w1 := wc') hP hD isC isR hC hR hn hdis hk1 hF hP1 hD1
  exact kk H1 locs1 (a1.by _ (va_part perm hp)) (a2.part perm hpn hp) hS1
theorem kctm_i {S : Type} {X wc wr T : va_W} {B X2 : S → va_W} {v : Int32} {ty : FieldType} {mc ms : Nat} (hr : va_Run p l e rm s m args below meth c H locs cells slots mc ms (F0 m pc ls st0) rest (va_Qi (fun (r : Int32) (_ : S) => r = v ∧ narrow ty (.int r) = .int r) (fun u t => va_P D vwCl (B u) t.heap ∧ va_D (va_A wc H.size) (B u)) (va_A wc H.size) a) (va_A wc H.size)) (hP : va_P D vwCl (X ++ T) H) (hD : va_D A (X ++ T)) (hS : va_S A H0 H locs) (hA : ∀ q : Nat, H0.size ≤ q → A q) (isC isR perm : List Nat) (hC : isC.map (fun i => X[i]?) = wc.map some) (hR : isR.map (fun i => X[i]?) = wr.map some) (hn : va_nd isR = true) (hdis : ∀ i ∈ isR, i ∉ isC) (hp : ∀ u, perm.map (fun i => (wr ++ B u)[i]?) = (X2 u).map some) (hpn : va_nd perm = true)
    (kk : ∀ (u : S) (H1 : Heap) (locs1 : List Loc), va_P D vwCl (X2 u ++ T) H1 → va_D A (X2 u ++ T) → va_S A H0 H1 locs1 → W p l e rm s m args below meth c H1 locs1 (cells + mc) (slots + ms) Q (F0 m (pc + 3) ls (.int v :: rest))) : W p l e rm s m args below meth c H locs cells slots Q (F0 m pc ls st0) := by
  have hF : ∀ q, va_A wc H.size q → A q := tail_free hD hS hA isC hC
  refine va_calli hr hS (fun q _ h => hF q h) hF (fun r u t H1 locs1 ht hvm hw hB hz1 hk1 hS1 => ?_)
  obtain ⟨hP1, hD1⟩ := hB
  rw [ht] at hP1
  obtain ⟨hw, hz⟩ := hw
  subst hw
  obtain ⟨a1, a2⟩ := va_joinQ (wr := wr) (w1 := B u) hP hD isC isR hC hR hn hdis hk1 hF hP1 hD1
  exact kk u H1 locs1 (a1.by _ (va_part perm (hp u))) (a2.part perm hpn (hp u)) hS1
/-- script[i + n] -/
theorem ldx {n : Int} {v : Int32} {k b L i : Nat} {xs : Nat → Int32} {a qm : Nat → Nat} (hexec : p.tables.exec = Jvm.exec) (hb : c.code = code) (hX : va_X b L xs s s.heap) (hbl : b < s.heap.size) (hbA : ¬ A b) (hS : va_S A s.heap H locs) (hl : lv_has ls 4 (lcl b a qm i)) (hi : i + k < L) (hLL : L ≤ 384) (hv : v = nI k) (d0 : decode code pc = .ok (.aload_n 0, 1)) (d1 : decode code (pc + 1) = .ok (.iload_n 3, 1)) (d2 : decode code (pc + 2) = .ok (.iconst n, 1)) (d3 : decode code (pc + 3) = .ok (.iadd, 1)) (d4 : decode code (pc + 4) = .ok (.iaload, 1)) (hn : Int32.ofInt n = v)
    (kk : W p l e rm s m args below meth c H locs cells slots Q (F0 m (pc + 5) ls (.int (xs (i + k)) :: rest))) : W p l e rm s m args below meth c H locs cells slots Q (F0 m pc ls rest) := by
  subst hv
  refine lv_aload_n hexec hb d0 rfl (lv_at hl 0 rfl) ?_
  refine lv_iload_n hexec hb d1 rfl (lv_at hl 3 rfl) ?_
  refine lv_iconst hexec hb d2 hn ?_
  refine lv_iadd hexec hb d3 ?_
  rw [show nI i + nI k = nI (i + k) from nI_add i k]
  refine va_sld hexec hb hX hbl hbA hS (vp_in_nI hi (by omega)) d4 ?_
  rw [nI_clamp (show i + k < 2 ^ 31 by omega)]
  exact kk
end ZL
