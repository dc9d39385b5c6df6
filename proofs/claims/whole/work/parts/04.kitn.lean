/-! methods that make cells: constructors, images -/
section ZN
variable {p : Program} {l : Launch} {e : Env} {rm : Room} {s : State} {m : MethodId} {args : Array Value} {below : List Frame} {meth : Method} {c : Code} {D : va_G} {K : Nat → ClassId}
/-- what a constructor ends with -/
def kN (l : Launch) (D : va_G) (K : Nat → ClassId) {S : Type} (y : MethodName) (w : List Cond) (rm : Room) (av : List Value) (ws : va_W) (post : S → Prop) (B : S → va_W) (mc ms : Nat) : Prop :=
  ∀ sz : Nat, Met l y w rm (va_Pc av (kP D K ws sz)) (va_Qv post (fun u t => va_P D vwCl (B u) t.heap ∧ va_D (va_A ws sz) (B u)) (va_A ws sz)) mc ms (va_A ws sz)
theorem kN.of {S : Type} {y : MethodName} {w w' : List Cond} {av : List Value} {ws : va_W} {post : S → Prop} {B : S → va_W} {mc ms : Nat} {cc : ByteArray} {maxL : Nat} (hy : plainName y.cls = true) (hw : w = Cond.code y cc maxL none :: w') (hlen : (lg_sl av).length ≤ maxL)
    (body : ∀ {p : Program} {e : Env} {s : State} {m : MethodId} {args : Array Value} {below : List Frame} {meth : Method} {c : Code} {A : Nat → Prop} {H : Heap} {Q : State → Prop} {ls : Array Slot}, p.tables.exec = Jvm.exec → c.code = cc → c.maxLocals = maxL → s.vm.findClass y.cls = some m.cls → meth.name = y.name → (∀ w0 ∈ w, w0.before args s = true) → va_K D vwCl (TY K) s → (∀ w0 ∈ nestL, va_Nw w0 s) → (∀ q : Nat, H.size ≤ q → A q) → va_P D vwCl ws H → va_D A ws → va_S A H H [] → lv_has ls maxL (lv_args 0 av) →
      (∀ (u : S) {w2 : va_W} {H1 : Heap} {locs : List Loc} {ls1 : Array Slot} {pc : Nat}, post u → w2 = B u → va_P D vwCl w2 H1 → va_D A w2 → va_S A H H1 locs → decode cc pc = .ok (.return_, 1) → W p l e rm s m args below meth c H1 locs mc ms Q (F0 m pc ls1 [])) →
      W p l e rm s m args below meth c H [] 0 0 Q (F0 m 0 ls [])) : kN l D K y w rm av ws post B mc ms := by
  intro sz
  refine Met.ofW (cc := cc) (maxL := maxL) (ret := none) hy hw ?_
  intro p e s m args below meth c s₁ B1 hml hv
  obtain ⟨rfl, hsz, hP, hK, hD0, hN⟩ := hv
  subst hsz
  have hx := B1.exec
  have hb := B1.bytes
  have hr := B1.returns
  have hlocks := B1.notSynchronized
  have hl := lv_entry av (n := maxL) hlen
  rw [lg_entry_eq]
  refine body hx hb hml (findClass_of_methodNamed B1.named) (name_of_methodNamed B1.named B1.method).1 (atoms_spec (ws := w) B1.pre) hK hN (fun q h => Or.inr h) hP (hD0.self (sz := s.heap.size)) va_S.rf hl ?_
  intro u w2 H1 locs ls1 pc hpost ew hP1 hD1 hS1 hdg
  subst ew
  exact W.vret hx hb hr (fun t ht hW => ⟨⟨u, rfl, hpost, by rw [ht]; exact hP1, hD1⟩, hS1.F ht⟩) hS1.2.2 hdg
/-- the same with the word on arrays of shops -/
def kPA (D : va_G) (K : Nat → ClassId) (ws : va_W) (sz : Nat) : State → Prop := fun U => kP D K ws sz U ∧ va_AO "WordScales$Shop" U
theorem kPA.of {S : Type} {y : MethodName} {w w' : List Cond} {av : List Value} {ws : va_W} {post : S → Prop} {B : S → va_W} {mc ms : Nat} {cc : ByteArray} {maxL : Nat} (hy : plainName y.cls = true) (hw : w = Cond.code y cc maxL none :: w') (hlen : (lg_sl av).length ≤ maxL)
    (body : ∀ {p : Program} {e : Env} {s : State} {m : MethodId} {args : Array Value} {below : List Frame} {meth : Method} {c : Code} {A : Nat → Prop} {H : Heap} {Q : State → Prop} {ls : Array Slot}, p.tables.exec = Jvm.exec → c.code = cc → c.maxLocals = maxL → s.vm.findClass y.cls = some m.cls → meth.name = y.name → (∀ w0 ∈ w, w0.before args s = true) → va_K D vwCl (TY K) s → (∀ w0 ∈ nestL, va_Nw w0 s) → (∀ q : Nat, H.size ≤ q → A q) → va_P D vwCl ws H → va_D A ws → va_S A H H [] → lv_has ls maxL (lv_args 0 av) → va_AO "WordScales$Shop" s →
      (∀ (u : S) {w2 : va_W} {H1 : Heap} {locs : List Loc} {ls1 : Array Slot} {pc : Nat}, post u → w2 = B u → va_P D vwCl w2 H1 → va_D A w2 → va_S A H H1 locs → decode cc pc = .ok (.return_, 1) → W p l e rm s m args below meth c H1 locs mc ms Q (F0 m pc ls1 [])) →
      W p l e rm s m args below meth c H [] 0 0 Q (F0 m 0 ls [])) : ∀ sz : Nat, Met l y w rm (va_Pc av (kPA D K ws sz)) (va_Qv post (fun u t => va_P D vwCl (B u) t.heap ∧ va_D (va_A ws sz) (B u)) (va_A ws sz)) mc ms (va_A ws sz) := by
  intro sz
  refine Met.ofW (cc := cc) (maxL := maxL) (ret := none) hy hw ?_
  intro p e s m args below meth c s₁ B1 hml hv
  obtain ⟨rfl, ⟨hsz, hP, hK, hD0, hN⟩, hAO⟩ := hv
  subst hsz
  have hx := B1.exec
  have hb := B1.bytes
  have hr := B1.returns
  have hlocks := B1.notSynchronized
  have hl := lv_entry av (n := maxL) hlen
  rw [lg_entry_eq]
  refine body hx hb hml (findClass_of_methodNamed B1.named) (name_of_methodNamed B1.named B1.method).1 (atoms_spec (ws := w) B1.pre) hK hN (fun q h => Or.inr h) hP (hD0.self (sz := s.heap.size)) va_S.rf hl hAO ?_
  intro u w2 H1 locs ls1 pc hpost ew hP1 hD1 hS1 hdg
  subst ew
  exact W.vret hx hb hr (fun t ht hW => ⟨⟨u, rfl, hpost, by rw [ht]; exact hP1, hD1⟩, hS1.F ht⟩) hS1.2.2 hdg
/-- a method with a number that makes cells -/
def kM (l : Launch) (D : va_G) (K : Nat → ClassId) {S : Type} (ty : FieldType) (y : MethodName) (w : List Cond) (rm : Room) (av : List Value) (ws : va_W) (R : Int32) (B : S → va_W) (mc ms : Nat) : Prop :=
  ∀ sz : Nat, Met l y w rm (va_Pc av (kP D K ws sz)) (va_Qi (fun (r : Int32) (_ : S) => r = R ∧ narrow ty (.int r) = .int r) (fun u t => va_P D vwCl (B u) t.heap ∧ va_D (va_A ws sz) (B u)) (va_A ws sz)) mc ms (va_A ws sz)
theorem kM.of {S : Type} {y : MethodName} {w w' : List Cond} {av : List Value} {ws : va_W} {R : Int32} {B : S → va_W} {mc ms : Nat} {cc : ByteArray} {maxL : Nat} {ty : FieldType} (hy : plainName y.cls = true) (hw : w = Cond.code y cc maxL (some ty) :: w') (hlen : (lg_sl av).length ≤ maxL)
    (body : ∀ {p : Program} {e : Env} {s : State} {m : MethodId} {args : Array Value} {below : List Frame} {meth : Method} {c : Code} {A : Nat → Prop} {H : Heap} {Q : State → Prop} {ls : Array Slot}, p.tables.exec = Jvm.exec → c.code = cc → c.maxLocals = maxL → s.vm.findClass y.cls = some m.cls → (∀ w0 ∈ w, w0.before args s = true) → va_K D vwCl (TY K) s → (∀ w0 ∈ nestL, va_Nw w0 s) → (∀ q : Nat, H.size ≤ q → A q) → va_P D vwCl ws H → va_D A ws → va_S A H H [] → lv_has ls maxL (lv_args 0 av) →
      (∀ (u : S) {v : Int32} {w2 : va_W} {H1 : Heap} {locs : List Loc} {ls1 : Array Slot} {pc : Nat}, v = R → w2 = B u → narrow ty (.int v) = .int v → va_P D vwCl w2 H1 → va_D A w2 → va_S A H H1 locs → decode cc pc = .ok (.ireturn, 1) → W p l e rm s m args below meth c H1 locs mc ms Q (F0 m pc ls1 [.int v])) →
      W p l e rm s m args below meth c H [] 0 0 Q (F0 m 0 ls [])) : kM l D K ty y w rm av ws R B mc ms := by
  intro sz
  refine Met.ofW (cc := cc) (maxL := maxL) (ret := some ty) hy hw ?_
  intro p e s m args below meth c s₁ B1 hml hv
  obtain ⟨rfl, hsz, hP, hK, hD0, hN⟩ := hv
  subst hsz
  have hx := B1.exec
  have hb := B1.bytes
  have hr := B1.returns
  have hlocks := B1.notSynchronized
  have hl := lv_entry av (n := maxL) hlen
  rw [lg_entry_eq]
  refine body hx hb hml (findClass_of_methodNamed B1.named) (atoms_spec (ws := w) B1.pre) hK hN (fun q h => Or.inr h) hP (hD0.self (sz := s.heap.size)) va_S.rf hl ?_
  intro u v w2 H1 locs ls1 pc ev ew hn hP1 hD1 hS1 hdg
  subst ev
  subst ew
  exact W.zret hx hb hr hn (fun t ht hW => ⟨⟨v, u, rfl, ⟨rfl, hn⟩, by rw [ht]; exact hP1, hD1⟩, hS1.F ht⟩) hS1.2.2 hdg
variable {H H0 : Heap} {locs : List Loc} {cells slots : Nat} {Q : State → Prop} {pc : Nat} {ls : Array Slot} {rest st0 : List Value} {A : Nat → Prop} {a : Array Value}
/-- a constructor's call -/
theorem kcn_v {S : Type} {post : S → Prop} {B : S → va_W} {ws wc wr : va_W} {mc ms : Nat} (hr : va_Run p l e rm s m args below meth c H locs cells slots mc ms (F0 m pc ls st0) rest (va_Qv post (fun u t => va_P D vwCl (B u) t.heap ∧ va_D (va_A wc H.size) (B u)) (va_A wc H.size) a) (va_A wc H.size)) (hP : va_P D vwCl ws H) (hD : va_D A ws) (hS : va_S A H0 H locs) (hA : ∀ q : Nat, H0.size ≤ q → A q) (isC isR : List Nat) (hC : isC.map (fun i => ws[i]?) = wc.map some) (hR : isR.map (fun i => ws[i]?) = wr.map some) (hn : va_nd isR = true) (hdis : ∀ i ∈ isR, i ∉ isC)
    (kk : ∀ (u : S) (H1 : Heap) (locs1 : List Loc), post u → va_P D vwCl (wr ++ B u) H1 → va_D A (wr ++ B u) → va_S A H0 H1 locs1 → W p l e rm s m args below meth c H1 locs1 (cells + mc) (slots + ms) Q (F0 m (pc + 3) ls rest)) : W p l e rm s m args below meth c H locs cells slots Q (F0 m pc ls st0) := by
  have hF : ∀ q, va_A wc H.size q → A q := va_free (wc := wc) hD hS hA isC hC
  refine va_callv hr hS (fun q _ h => hF q h) hF (fun u t H1 locs1 ht hvm hw hB hz1 hk1 hS1 => ?_)
  obtain ⟨hP1, hD1⟩ := hB
  rw [ht] at hP1
  obtain ⟨a1, a2⟩ := va_join (wr := wr) (w1 := B u) hP hD isC isR hC hR hn hdis hk1 hF hP1 hD1
  exact kk u H1 locs1 hw a1 a2 hS1
theorem kcm_i {S : Type} {R : Int32} {ty : FieldType} {B : S → va_W} {ws wc wr : va_W} {mc ms : Nat} (hr : va_Run p l e rm s m args below meth c H locs cells slots mc ms (F0 m pc ls st0) rest (va_Qi (fun (r : Int32) (_ : S) => r = R ∧ narrow ty (.int r) = .int r) (fun u t => va_P D vwCl (B u) t.heap ∧ va_D (va_A wc H.size) (B u)) (va_A wc H.size) a) (va_A wc H.size)) (hP : va_P D vwCl ws H) (hD : va_D A ws) (hS : va_S A H0 H locs) (hA : ∀ q : Nat, H0.size ≤ q → A q) (isC isR : List Nat) (hC : isC.map (fun i => ws[i]?) = wc.map some) (hR : isR.map (fun i => ws[i]?) = wr.map some) (hn : va_nd isR = true) (hdis : ∀ i ∈ isR, i ∉ isC)
    (kk : ∀ (u : S) (H1 : Heap) (locs1 : List Loc), va_P D vwCl (wr ++ B u) H1 → va_D A (wr ++ B u) → va_S A H0 H1 locs1 → W p l e rm s m args below meth c H1 locs1 (cells + mc) (slots + ms) Q (F0 m (pc + 3) ls (.int R :: rest))) : W p l e rm s m args below meth c H locs cells slots Q (F0 m pc ls st0) := by
  have hF : ∀ q, va_A wc H.size q → A q := va_free (wc := wc) hD hS hA isC hC
  refine va_calli hr hS (fun q _ h => hF q h) hF (fun r u t H1 locs1 ht hvm hw hB hz1 hk1 hS1 => ?_)
  obtain ⟨hP1, hD1⟩ := hB
  rw [ht] at hP1
  obtain ⟨hw, hz⟩ := hw
  subst hw
  obtain ⟨a1, a2⟩ := va_join (wr := wr) (w1 := B u) hP hD isC isR hC hR hn hdis hk1 hF hP1 hD1
  exact kk u H1 locs1 a1 a2 hS1
/-- new rows of numbers, of the kinds that the tables have -/
theorem zn_i {cc : ByteArray} (hexec : p.tables.exec = Jvm.exec) (hb : c.code = cc) (harr : (Cond.arrayClass .int).before args s = true) {ws : va_W} (hK : va_K D vwCl (TY K) s) (hP : va_P D vwCl ws H) (hD : va_D A ws) (hS : va_S A H0 H locs) (hA : ∀ q : Nat, H0.size ≤ q → A q) {n : Int32} {N : Nat} (hn : ¬ n < 0) (hN : n.toNatClampNeg = N) (hbytes : N * componentBytes .int ≤ 536870912) (hcells : cells + 1 ≤ rm.cells) (hslots : slots + N ≤ rm.slots) (hdg : decode cc pc = .ok (.newarray .int, 2))
    (kk : ∀ (q : Nat) (H1 : Heap), va_P D vwCl (ws ++ [(q, .inl (K 0, N, .inl (fun _ => 0)))]) H1 → va_D A (ws ++ [(q, .inl (K 0, N, .inl (fun _ => 0)))]) → va_S A H0 H1 locs → W p l e rm s m args below meth c H1 locs (cells + 1) (slots + N) Q (F0 m (pc + 2) ls (.ref q :: rest))) : W p l e rm s m args below meth c H locs cells slots Q (F0 m pc ls (.int n :: rest)) := by
  refine va_newa (atype := .int) (ty := .int) (a0 := (N, .inl (fun _ => 0))) hexec hb harr rfl hK hP hD hS hA (fun cA => rfl) hn hN hbytes hcells hslots hdg (fun q cA H1 hK1 hP1 hD1 hS1 => ?_)
  have h1 : va_RA s cA .int := (hK1.2 4 _ rfl).2
  have h2 : va_RA s (K 0) .int := (hK.2 0 _ rfl).2
  have e : cA = K 0 := Option.some.inj (Eq.trans (Eq.symm h1) h2)
  subst e
  exact kk q H1 hP1 hD1 hS1
theorem zn_l {cc : ByteArray} (hexec : p.tables.exec = Jvm.exec) (hb : c.code = cc) (harr : (Cond.arrayClass .long).before args s = true) {ws : va_W} (hK : va_K D vwCl (TY K) s) (hP : va_P D vwCl ws H) (hD : va_D A ws) (hS : va_S A H0 H locs) (hA : ∀ q : Nat, H0.size ≤ q → A q) {n : Int32} {N : Nat} (hn : ¬ n < 0) (hN : n.toNatClampNeg = N) (hbytes : N * componentBytes .long ≤ 536870912) (hcells : cells + 1 ≤ rm.cells) (hslots : slots + N ≤ rm.slots) (hdg : decode cc pc = .ok (.newarray .long, 2))
    (kk : ∀ (q : Nat) (H1 : Heap), va_P D vwCl (ws ++ [(q, .inl (K 1, N, .inr (.inl (fun _ => 0))))]) H1 → va_D A (ws ++ [(q, .inl (K 1, N, .inr (.inl (fun _ => 0))))]) → va_S A H0 H1 locs → W p l e rm s m args below meth c H1 locs (cells + 1) (slots + N) Q (F0 m (pc + 2) ls (.ref q :: rest))) : W p l e rm s m args below meth c H locs cells slots Q (F0 m pc ls (.int n :: rest)) := by
  refine va_newa (atype := .long) (ty := .long) (a0 := (N, .inr (.inl (fun _ => 0)))) hexec hb harr rfl hK hP hD hS hA (fun cA => rfl) hn hN hbytes hcells hslots hdg (fun q cA H1 hK1 hP1 hD1 hS1 => ?_)
  have h1 : va_RA s cA .long := (hK1.2 4 _ rfl).2
  have h2 : va_RA s (K 1) .long := (hK.2 1 _ rfl).2
  have e : cA = K 1 := Option.some.inj (Eq.trans (Eq.symm h1) h2)
  subst e
  exact kk q H1 hP1 hD1 hS1
theorem zn_z {cc : ByteArray} (hexec : p.tables.exec = Jvm.exec) (hb : c.code = cc) (harr : (Cond.arrayClass .boolean).before args s = true) {ws : va_W} (hK : va_K D vwCl (TY K) s) (hP : va_P D vwCl ws H) (hD : va_D A ws) (hS : va_S A H0 H locs) (hA : ∀ q : Nat, H0.size ≤ q → A q) {n : Int32} {N : Nat} (hn : ¬ n < 0) (hN : n.toNatClampNeg = N) (hbytes : N * componentBytes .boolean ≤ 536870912) (hcells : cells + 1 ≤ rm.cells) (hslots : slots + N ≤ rm.slots) (hdg : decode cc pc = .ok (.newarray .boolean, 2))
    (kk : ∀ (q : Nat) (H1 : Heap), va_P D vwCl (ws ++ [(q, .inl (K 2, N, .inl (fun _ => 0)))]) H1 → va_D A (ws ++ [(q, .inl (K 2, N, .inl (fun _ => 0)))]) → va_S A H0 H1 locs → W p l e rm s m args below meth c H1 locs (cells + 1) (slots + N) Q (F0 m (pc + 2) ls (.ref q :: rest))) : W p l e rm s m args below meth c H locs cells slots Q (F0 m pc ls (.int n :: rest)) := by
  refine va_newa (atype := .boolean) (ty := .boolean) (a0 := (N, .inl (fun _ => 0))) hexec hb harr rfl hK hP hD hS hA (fun cA => rfl) hn hN hbytes hcells hslots hdg (fun q cA H1 hK1 hP1 hD1 hS1 => ?_)
  have h1 : va_RA s cA .boolean := (hK1.2 4 _ rfl).2
  have h2 : va_RA s (K 2) .boolean := (hK.2 2 _ rfl).2
  have e : cA = K 2 := Option.some.inj (Eq.trans (Eq.symm h1) h2)
  subst e
  exact kk q H1 hP1 hD1 hS1
theorem zn_q {cc : ByteArray} (hexec : p.tables.exec = Jvm.exec) (hb : c.code = cc) {own : String} {index : Nat} (hown : s.vm.findClass own = some m.cls) (hclink : (Cond.classLink own index "WordScales$Shop").before args s = true) (hover : va_AO "WordScales$Shop" s) {ws : va_W} (hK : va_K D vwCl (TY K) s) (hP : va_P D vwCl ws H) (hD : va_D A ws) (hS : va_S A H0 H locs) (hA : ∀ q : Nat, H0.size ≤ q → A q) {n : Int32} {N : Nat} (hn : ¬ n < 0) (hN : n.toNatClampNeg = N) (hbytes : N * 4 ≤ 536870912) (hcells : cells + 1 ≤ rm.cells) (hslots : slots + N ≤ rm.slots) (hdg : decode cc pc = .ok (.anewarray index, 3))
    (kk : ∀ (q : Nat) (H1 : Heap), va_P D vwCl (ws ++ [(q, .inl (K 3, N, .inr (.inr (.inr (.inr (fun _ => none))))))]) H1 → va_D A (ws ++ [(q, .inl (K 3, N, .inr (.inr (.inr (.inr (fun _ => none))))))]) → va_S A H0 H1 locs → W p l e rm s m args below meth c H1 locs (cells + 1) (slots + N) Q (F0 m (pc + 3) ls (.ref q :: rest))) : W p l e rm s m args below meth c H locs cells slots Q (F0 m pc ls (.int n :: rest)) := by
  refine va_newq hexec hb hown hclink hover hK hP hD hS hA hn hN hbytes hcells hslots hdg (fun q cA H1 hK1 hP1 hD1 hS1 => ?_)
  obtain ⟨kA1, comp1, x1, x2, x3, h1⟩ : va_RA s cA (.object "WordScales$Shop") := (hK1.2 4 _ rfl).2
  obtain ⟨kA2, comp2, y1, y2, y3, h2⟩ : va_RA s (K 3) (.object "WordScales$Shop") := (hK.2 3 _ rfl).2
  have e : cA = K 3 := Option.some.inj (Eq.trans (Eq.symm h1) h2)
  subst e
  exact kk q H1 hP1 hD1 hS1
end ZN
