def nestL : List Cond := [.fieldLinkNest RX4 50 "WordScales$Shop" "weights" "[I" "WordScales", .fieldLinkNest RX1 98 "WordScales$Shop" "weights" "[I" "WordScales", .fieldLinkNest RX4 53 "WordScales$Shop" "kinds" "[I" "WordScales", .fieldLinkNest RX1 116 "WordScales$Shop" "kinds" "[I" "WordScales", .fieldLinkNest RX4 60 "WordScales$Shop" "rhymes" "[I" "WordScales", .fieldLinkNest RX4 79 "WordScales$Shop" "purses" "[I" "WordScales", .fieldLinkNest RX4 82 "WordScales$Shop" "belongings" "[I" "WordScales", .fieldLinkNest RX4 151 "WordScales$Shop" "wishes" "[I" "WordScales", .fieldLinkNest RX4 148 "WordScales$Shop" "wishCount" "I" "WordScales", .fieldLinkNest RX4 161 "WordScales$Shop" "lefts" "[I" "WordScales", .fieldLinkNest RX4 164 "WordScales$Shop" "rights" "[I" "WordScales", .fieldLinkNest RX4 167 "WordScales$Shop" "outcomes" "[I" "WordScales", .fieldLinkNest RX4 158 "WordScales$Shop" "sightCount" "I" "WordScales", .fieldLinkNest RX1 78 "WordScales$ActReader" "act" "I" "WordScales", .fieldLinkNest RX1 102 "WordScales$ActReader" "speaker" "I" "WordScales", .fieldLinkNest RX1 85 "WordScales$ActReader" "word" "I" "WordScales", .fieldLinkNest RX1 105 "WordScales$ActReader" "other" "I" "WordScales", .fieldLinkNest RX4 112 "WordScales$Row" "length" "I" "WordScales", .fieldLinkNest RX4 101 "WordScales$Days" "shop" "LWordScales$Shop;" "WordScales", .fieldLinkNest RX4 108 "WordScales$Days" "row" "LWordScales$Row;" "WordScales", .fieldLinkNest RX4 89 "WordScales$Days" "faultPlace" "I" "WordScales", .fieldLinkNest RX4 121 "WordScales$Days" "acts" "I" "WordScales", .fieldLinkNest RX4 95 "WordScales$Days" "badAct" "I" "WordScales", .fieldLinkNest RX4 98 "WordScales$Days" "why" "I" "WordScales", .fieldLinkNest RX4 92 "WordScales$Days" "sentences" "I" "WordScales", .fieldLinkNest RX4 105 "WordScales$Days" "spoken" "I" "WordScales", .fieldLinkNest RX4 102 "WordScales$Days" "heaviest" "I" "WordScales", .methodLinkNest RX4 9 yX3_init "WordScales", .methodLinkNest RX4 33 yX1_init "WordScales", .methodLinkNest RX1 11 yX3_init "WordScales", .methodLinkNest RX1 20 yX0_init "WordScales", .methodLinkNest RX1 27 yX2_init "WordScales", .methodLinkNest RX4 56 yX3_joinRhymes "WordScales", .methodLinkNest RX3 50 yX4_isWord "WordScales", .methodLinkNest RX3 54 yX4_isIn "WordScales", .methodLinkNest RX4 69 yX3_leaveRhymes "WordScales", .methodLinkNest RX4 85 yX1_readAll "WordScales", .methodLinkNest RX1 72 yX3_copyFrom "WordScales", .methodLinkNest RX3 46 yX4_copyRow "WordScales", .methodLinkNest RX1 75 yX0_begin "WordScales", .methodLinkNest RX1 77 yX2_begin "WordScales", .methodLinkNest RX1 61 yX0_take "WordScales", .methodLinkNest RX0 43 yX4_isSpeaker "WordScales", .methodLinkNest RX0 46 yX4_isWord "WordScales", .methodLinkNest RX1 65 yX0_isBetweenActs "WordScales", .methodLinkNest RX1 92 yX2_isSentence "WordScales", .methodLinkNest RX1 95 yX4_isWord "WordScales", .methodLinkNest RX1 108 yX3_perform "WordScales", .methodLinkNest RX3 79 yX4_isSpeaker "WordScales", .methodLinkNest RX1 119 yX2_add "WordScales", .methodLinkNest RX4 117 yX3_copyFrom "WordScales", .methodLinkNest RX4 124 yX3_weigh "WordScales", .methodLinkNest RX4 131 yX3_countKind "WordScales", .methodLinkNest RX4 210 yX3_ofKind "WordScales", .methodLinkNest RX4 142 yX3_priceOf "WordScales", .methodLinkNest RX4 213 yX3_heldBy "WordScales", .methodLinkNest RX4 216 yX3_canSayOnce "WordScales", .methodLinkNest RX4 220 yX3_grantsAll "WordScales", .methodLinkNest RX4 170 yX3_suspects "WordScales", .methodLinkNest RX4 194 yX3_liveYear "WordScales", .methodLinkNest RX4 197 yX3_countBelongings "WordScales"]
/-! contracts of methods that make nothing: frames, calls, ends; partial functions -/
def isNw (w : Cond) : Bool := match w with
  | .fieldLinkNest .. => true
  | .methodLinkNest .. => true
  | _ => false
theorem nestL_ok : ∀ w ∈ nestL, isNw w = true := List.all_eq_true.mp (by decide +kernel)
theorem isNw_tab {w : Cond} (h : isNw w = true) : w.onTables = true := by
  cases w <;> first | rfl | exact absurd h Bool.false_ne_true
theorem isNw_warm {w : Cond} {s U : State} (h : isNw w = true) (hW : s.WarmedH U.vm) (hZ : va_Nw w s) : va_Nw w U := by
  cases w <;> first | exact va_Nw.warmF hW hZ | exact va_Nw.warmM hW hZ | exact absurd h Bool.false_ne_true
theorem nw_warm {s U : State} (hW : s.WarmedH U.vm) (h : ∀ w ∈ nestL, va_Nw w s) : ∀ w ∈ nestL, va_Nw w U := fun w hw => isNw_warm (nestL_ok w hw) hW (h w hw)
theorem nw_same {u U : State} (hv : u.vm = U.vm) (h : ∀ w ∈ nestL, va_Nw w u) : ∀ w ∈ nestL, va_Nw w U := fun w hw => va_Nw.same (isNw_tab (nestL_ok w hw)) hv (h w hw)
/-- the array kinds: ints, longs, booleans, shops -/
def TY (K : Nat → ClassId) : List (ClassId × FieldType) := [(K 0, .int), (K 1, .long), (K 2, .boolean), (K 3, .object "WordScales$Shop")]
def kP (D : va_G) (K : Nat → ClassId) (ws : va_W) (sz : Nat) : State → Prop := fun U => U.heap.size = sz ∧ va_P D vwCl ws U.heap ∧ va_K D vwCl (TY K) U ∧ va_D (fun _ => True) ws ∧ ∀ w ∈ nestL, va_Nw w U
def kB (D : va_G) (ws ws' : va_W) (sz : Nat) : Unit → State → Prop := fun _ t => va_P D vwCl ws' t.heap ∧ va_D (va_A ws sz) ws'
def kI (l : Launch) (D : va_G) (K : Nat → ClassId) (ty : FieldType) (y : MethodName) (w : List Cond) (rm : Room) (av : List Value) (ws : va_W) (R : Int32) (ws' : va_W) : Prop :=
  ∀ sz : Nat, Met l y w rm (va_Pc av (kP D K ws sz)) (va_Qi (fun (r : Int32) (_ : Unit) => r = R ∧ narrow ty (.int r) = .int r) (kB D ws ws' sz) (va_A ws sz)) 0 0 (va_A ws sz)
def kL (l : Launch) (D : va_G) (K : Nat → ClassId) (y : MethodName) (w : List Cond) (rm : Room) (av : List Value) (ws : va_W) (R : Int64) (ws' : va_W) : Prop :=
  ∀ sz : Nat, Met l y w rm (va_Pc av (kP D K ws sz)) (va_Ql (fun (r : Int64) (_ : Unit) => r = R) (kB D ws ws' sz) (va_A ws sz)) 0 0 (va_A ws sz)
def kV (l : Launch) (D : va_G) (K : Nat → ClassId) (y : MethodName) (w : List Cond) (rm : Room) (av : List Value) (ws : va_W) (ws' : va_W) : Prop :=
  ∀ sz : Nat, Met l y w rm (va_Pc av (kP D K ws sz)) (va_Qv (fun (_ : Unit) => True) (kB D ws ws' sz) (va_A ws sz)) 0 0 (va_A ws sz)
theorem kP_calling {D : va_G} {K : Nat → ClassId} {ws : va_W} {sz : Nat} {U : State} {g : JFrame} {mk : MethodId} {a : Array Value} (h : kP D K ws sz U) : kP D K ws sz (U.calling g mk a) :=
  ⟨h.1, h.2.1, va_K.moved (u := U) (U := U.calling g mk a) (Vm.Alike.refl U.vm) h.2.2.1, h.2.2.2.1, nw_same (u := U) (U := U.calling g mk a) rfl h.2.2.2.2⟩
section ZK
variable {p : Program} {l : Launch} {e : Env} {rm : Room} {s : State} {m : MethodId} {args : Array Value} {below : List Frame} {meth : Method} {c : Code} {D : va_G} {K : Nat → ClassId}
theorem kI.of {y : MethodName} {w w' : List Cond} {av : List Value} {ws : va_W} {R : Int32} {ws' : va_W} {cc : ByteArray} {maxL : Nat} {ty : FieldType} (hy : plainName y.cls = true) (hw : w = Cond.code y cc maxL (some ty) :: w') (hlen : (lg_sl av).length ≤ maxL)
    (body : ∀ {p : Program} {e : Env} {s : State} {m : MethodId} {args : Array Value} {below : List Frame} {meth : Method} {c : Code} {A : Nat → Prop} {H : Heap} {Q : State → Prop} {ls : Array Slot}, p.tables.exec = Jvm.exec → c.code = cc → c.maxLocals = maxL → s.vm.findClass y.cls = some m.cls → (∀ w0 ∈ w, w0.before args s = true) → va_K D vwCl (TY K) s → (∀ w0 ∈ nestL, va_Nw w0 s) → (∀ q : Nat, H.size ≤ q → A q) → va_P D vwCl ws H → va_D A ws → va_S A H H [] → lv_has ls maxL (lv_args 0 av) →
      (∀ {v : Int32} {w2 : va_W} {H1 : Heap} {locs : List Loc} {ls1 : Array Slot} {pc : Nat}, v = R → w2 = ws' → narrow ty (.int v) = .int v → va_P D vwCl w2 H1 → va_D A w2 → va_S A H H1 locs → decode cc pc = .ok (.ireturn, 1) → W p l e rm s m args below meth c H1 locs 0 0 Q (F0 m pc ls1 [.int v])) →
      W p l e rm s m args below meth c H [] 0 0 Q (F0 m 0 ls [])) : kI l D K ty y w rm av ws R ws' := by
  intro sz
  refine Met.ofW (cc := cc) (maxL := maxL) (ret := some ty) hy hw ?_
  intro p e s m args below meth c s₁ B hml hv
  obtain ⟨rfl, hsz, hP, hK, hD0, hN⟩ := hv
  subst hsz
  have hx := B.exec
  have hb := B.bytes
  have hr := B.returns
  have hlocks := B.notSynchronized
  have hl := lv_entry av (n := maxL) hlen
  rw [lg_entry_eq]
  refine body hx hb hml (findClass_of_methodNamed B.named) (atoms_spec (ws := w) B.pre) hK hN (fun q h => Or.inr h) hP (hD0.self (sz := s.heap.size)) va_S.rf hl ?_
  intro v w2 H1 locs ls1 pc ev ew hn hP1 hD1 hS1 hdg
  subst ev
  subst ew
  exact W.zret hx hb hr hn (fun t ht hW => ⟨⟨v, (), rfl, ⟨rfl, hn⟩, by rw [ht]; exact hP1, hD1⟩, hS1.F ht⟩) hS1.2.2 hdg
theorem kL.of {y : MethodName} {w w' : List Cond} {av : List Value} {ws : va_W} {R : Int64} {ws' : va_W} {cc : ByteArray} {maxL : Nat} (hy : plainName y.cls = true) (hw : w = Cond.code y cc maxL (some .long) :: w') (hlen : (lg_sl av).length ≤ maxL)
    (body : ∀ {p : Program} {e : Env} {s : State} {m : MethodId} {args : Array Value} {below : List Frame} {meth : Method} {c : Code} {A : Nat → Prop} {H : Heap} {Q : State → Prop} {ls : Array Slot}, p.tables.exec = Jvm.exec → c.code = cc → c.maxLocals = maxL → s.vm.findClass y.cls = some m.cls → (∀ w0 ∈ w, w0.before args s = true) → va_K D vwCl (TY K) s → (∀ w0 ∈ nestL, va_Nw w0 s) → (∀ q : Nat, H.size ≤ q → A q) → va_P D vwCl ws H → va_D A ws → va_S A H H [] → lv_has ls maxL (lv_args 0 av) →
      (∀ {v : Int64} {w2 : va_W} {H1 : Heap} {locs : List Loc} {ls1 : Array Slot} {pc : Nat}, v = R → w2 = ws' → va_P D vwCl w2 H1 → va_D A w2 → va_S A H H1 locs → decode cc pc = .ok (.lreturn, 1) → W p l e rm s m args below meth c H1 locs 0 0 Q (F0 m pc ls1 [.long v])) →
      W p l e rm s m args below meth c H [] 0 0 Q (F0 m 0 ls [])) : kL l D K y w rm av ws R ws' := by
  intro sz
  refine Met.ofW (cc := cc) (maxL := maxL) (ret := some .long) hy hw ?_
  intro p e s m args below meth c s₁ B hml hv
  obtain ⟨rfl, hsz, hP, hK, hD0, hN⟩ := hv
  subst hsz
  have hx := B.exec
  have hb := B.bytes
  have hr := B.returns
  have hlocks := B.notSynchronized
  have hl := lv_entry av (n := maxL) hlen
  rw [lg_entry_eq]
  refine body hx hb hml (findClass_of_methodNamed B.named) (atoms_spec (ws := w) B.pre) hK hN (fun q h => Or.inr h) hP (hD0.self (sz := s.heap.size)) va_S.rf hl ?_
  intro v w2 H1 locs ls1 pc ev ew hP1 hD1 hS1 hdg
  subst ev
  subst ew
  exact W.lret hx hb hr (fun t ht hW => ⟨⟨v, (), rfl, rfl, by rw [ht]; exact hP1, hD1⟩, hS1.F ht⟩) hS1.2.2 hdg
theorem kV.of {y : MethodName} {w w' : List Cond} {av : List Value} {ws : va_W} {ws' : va_W} {cc : ByteArray} {maxL : Nat} (hy : plainName y.cls = true) (hw : w = Cond.code y cc maxL none :: w') (hlen : (lg_sl av).length ≤ maxL)
    (body : ∀ {p : Program} {e : Env} {s : State} {m : MethodId} {args : Array Value} {below : List Frame} {meth : Method} {c : Code} {A : Nat → Prop} {H : Heap} {Q : State → Prop} {ls : Array Slot}, p.tables.exec = Jvm.exec → c.code = cc → c.maxLocals = maxL → s.vm.findClass y.cls = some m.cls → (∀ w0 ∈ w, w0.before args s = true) → va_K D vwCl (TY K) s → (∀ w0 ∈ nestL, va_Nw w0 s) → (∀ q : Nat, H.size ≤ q → A q) → va_P D vwCl ws H → va_D A ws → va_S A H H [] → lv_has ls maxL (lv_args 0 av) →
      (∀ {w2 : va_W} {H1 : Heap} {locs : List Loc} {ls1 : Array Slot} {pc : Nat}, w2 = ws' → va_P D vwCl w2 H1 → va_D A w2 → va_S A H H1 locs → decode cc pc = .ok (.return_, 1) → W p l e rm s m args below meth c H1 locs 0 0 Q (F0 m pc ls1 [])) →
      W p l e rm s m args below meth c H [] 0 0 Q (F0 m 0 ls [])) : kV l D K y w rm av ws ws' := by
  intro sz
  refine Met.ofW (cc := cc) (maxL := maxL) (ret := none) hy hw ?_
  intro p e s m args below meth c s₁ B hml hv
  obtain ⟨rfl, hsz, hP, hK, hD0, hN⟩ := hv
  subst hsz
  have hx := B.exec
  have hb := B.bytes
  have hr := B.returns
  have hlocks := B.notSynchronized
  have hl := lv_entry av (n := maxL) hlen
  rw [lg_entry_eq]
  refine body hx hb hml (findClass_of_methodNamed B.named) (atoms_spec (ws := w) B.pre) hK hN (fun q h => Or.inr h) hP (hD0.self (sz := s.heap.size)) va_S.rf hl ?_
  intro w2 H1 locs ls1 pc ew hP1 hD1 hS1 hdg
  subst ew
  exact W.vret hx hb hr (fun t ht hW => ⟨⟨(), rfl, trivial, by rw [ht]; exact hP1, hD1⟩, hS1.F ht⟩) hS1.2.2 hdg
variable {H H0 : Heap} {locs : List Loc} {cells slots : Nat} {Q : State → Prop} {pc : Nat} {ls : Array Slot} {rest st0 : List Value} {A : Nat → Prop} {a : Array Value}
theorem kPreS {wc : va_W} {As : List Value} (hP : va_P D vwCl wc H) (hD : va_D A wc) (hK : va_K D vwCl (TY K) s) (hN : ∀ w ∈ nestL, va_Nw w s) : PreS s H (va_Pc As (kP D K wc H.size)) As :=
  ⟨fun _ _ _ _ q => ⟨q.1, kP_calling q.2⟩, fun U hU hW => ⟨rfl, by rw [hU], by rw [hU]; exact hP, hK.moved hW.alike, hD.weaken (fun _ _ _ _ => trivial), nw_warm hW hN⟩⟩
theorem kPreV {wc ws : va_W} {As : List Value} {q0 ci b : Nat} {q : vw_C} {fs : List Value} (hP0 : va_P D vwCl ws H) (hc : vwCl[ci]? = some q) (he : ws[q0]? = some (b, .inr (ci, fs))) (hP : va_P D vwCl wc H) (hD : va_D A wc) (hK : va_K D vwCl (TY K) s) (hN : ∀ w ∈ nestL, va_Nw w s) : PreV s H q.1 b (va_Pc (.ref b :: As) (kP D K wc H.size)) As :=
  ⟨fun _ _ _ _ q => ⟨q.1, kP_calling q.2⟩, va_recv hK hP0 hc he, fun U hU hW => ⟨rfl, by rw [hU], by rw [hU]; exact hP, hK.moved hW.alike, hD.weaken (fun _ _ _ _ => trivial), nw_warm hW hN⟩⟩
theorem va_P_nil : va_P D vwCl [] H := fun k q h => by simp at h
theorem va_D_nil : va_D A [] := ⟨fun i j p q h => by simp at h, fun k q h => by simp at h⟩
theorem fm_of {α β : Type} (f : α → Option β) : ∀ (is : List α) (r : List β), is.map f = r.map some → is.filterMap f = r := by
  intro is
  induction is with
  | nil => intro r h; cases r with
    | nil => rfl
    | cons b r => cases h
  | cons i is ih => intro r h; cases r with
    | nil => cases h
    | cons b r =>
      rw [List.map_cons, List.map_cons] at h
      injection h with h1 h2
      rw [List.filterMap_cons, h1, ih r h2]
theorem fr_all {ws : va_W} (hD : va_D A ws) (hS : va_S A H0 H locs) (hA : ∀ q : Nat, H0.size ≤ q → A q) : ∀ q, va_A ws H.size q → A q := by
  intro q h
  rcases h with ⟨k, e, h⟩ | h
  · exact hD.2 k (q, e) h
  · exact hA q (Nat.le_trans hS.1 h)
theorem fr_gen {ws wc wc' wr ws2 : va_W} {H1 : Heap} (hP : va_P D vwCl ws H) (hD : va_D A ws) (isC isR perm : List Nat) (hC : isC.map (fun i => ws[i]?) = wc.map some) (hR : isR.map (fun i => ws[i]?) = wr.map some) (hn : va_nd isR = true) (hdis : ∀ i ∈ isR, i ∉ isC) (hp : perm.map (fun i => (wr ++ wc')[i]?) = ws2.map some) (hpn : va_nd perm = true)
    (hk : ∀ q : Nat, q < H.size → ¬ va_A wc H.size q → H1[q]? = H[q]?) (hF : ∀ q, va_A wc H.size q → A q) (hP1 : va_P D vwCl wc' H1) (hD1 : va_D (va_A wc H.size) wc') : va_P D vwCl ws2 H1 ∧ va_D A ws2 := by
  obtain ⟨a1, a2⟩ := va_join (wr := wr) (w1 := wc') hP hD isC isR hC hR hn hdis hk hF hP1 hD1
  exact ⟨a1.sub perm (fm_of _ _ _ hp), a2.sub perm hpn hp⟩
theorem fr_0 {ws : va_W} {H1 : Heap} (hP : va_P D vwCl ws H) (hk : ∀ q : Nat, q < H.size → ¬ va_A [] H.size q → H1[q]? = H[q]?) : va_P D vwCl ws H1 := by
  refine hP.kept fun k q h => ?_
  have hlt := (hP k q h).lt
  refine hk q.1 hlt ?_
  rintro (⟨k, e, h⟩ | h)
  · simp at h
  · omega
/-- calls: nothing of the heap given -/
theorem kc0_i {ws : va_W} {v : Int32} {ty : FieldType} (hr : va_Run p l e rm s m args below meth c H locs cells slots 0 0 (F0 m pc ls st0) rest (va_Qi (fun (r : Int32) (_ : Unit) => r = v ∧ narrow ty (.int r) = .int r) (kB D [] [] H.size) (va_A [] H.size) a) (va_A [] H.size)) (hP : va_P D vwCl ws H) (hS : va_S A H0 H locs) (hA : ∀ q : Nat, H0.size ≤ q → A q)
    (kk : narrow ty (.int v) = .int v → ∀ (H1 : Heap) (locs1 : List Loc), va_P D vwCl ws H1 → va_S A H0 H1 locs1 → W p l e rm s m args below meth c H1 locs1 cells slots Q (F0 m (pc + 3) ls (.int v :: rest))) : W p l e rm s m args below meth c H locs cells slots Q (F0 m pc ls st0) := by
  have hF := fr_all (A := A) (ws := []) va_D_nil hS hA
  refine va_calli hr hS (fun q _ h => hF q h) hF (fun r u t H1 locs1 ht hvm hw hB hz1 hk1 hS1 => ?_)
  obtain ⟨hw, hz⟩ := hw
  subst hw
  exact kk hz H1 locs1 (fr_0 hP hk1) hS1
theorem kc0_l {ws : va_W} {v : Int64} (hr : va_Run p l e rm s m args below meth c H locs cells slots 0 0 (F0 m pc ls st0) rest (va_Ql (fun (r : Int64) (_ : Unit) => r = v) (kB D [] [] H.size) (va_A [] H.size) a) (va_A [] H.size)) (hP : va_P D vwCl ws H) (hS : va_S A H0 H locs) (hA : ∀ q : Nat, H0.size ≤ q → A q)
    (kk : ∀ (H1 : Heap) (locs1 : List Loc), va_P D vwCl ws H1 → va_S A H0 H1 locs1 → W p l e rm s m args below meth c H1 locs1 cells slots Q (F0 m (pc + 3) ls (.long v :: rest))) : W p l e rm s m args below meth c H locs cells slots Q (F0 m pc ls st0) := by
  have hF := fr_all (A := A) (ws := []) va_D_nil hS hA
  refine va_calll hr hS (fun q _ h => hF q h) hF (fun r u t H1 locs1 ht hvm hw hB hz1 hk1 hS1 => ?_)
  subst hw
  exact kk H1 locs1 (fr_0 hP hk1) hS1
/-- calls: the whole world given -/
theorem kcw_i {ws ws' : va_W} {v : Int32} {ty : FieldType} (hr : va_Run p l e rm s m args below meth c H locs cells slots 0 0 (F0 m pc ls st0) rest (va_Qi (fun (r : Int32) (_ : Unit) => r = v ∧ narrow ty (.int r) = .int r) (kB D ws ws' H.size) (va_A ws H.size) a) (va_A ws H.size)) (hD : va_D A ws) (hS : va_S A H0 H locs) (hA : ∀ q : Nat, H0.size ≤ q → A q)
    (kk : narrow ty (.int v) = .int v → ∀ (H1 : Heap) (locs1 : List Loc), va_P D vwCl ws' H1 → va_D A ws' → va_S A H0 H1 locs1 → W p l e rm s m args below meth c H1 locs1 cells slots Q (F0 m (pc + 3) ls (.int v :: rest))) : W p l e rm s m args below meth c H locs cells slots Q (F0 m pc ls st0) := by
  have hF := fr_all hD hS hA
  refine va_calli hr hS (fun q _ h => hF q h) hF (fun r u t H1 locs1 ht hvm hw hB hz1 hk1 hS1 => ?_)
  obtain ⟨hP1, hD1⟩ := hB
  rw [ht] at hP1
  obtain ⟨hw, hz⟩ := hw
  subst hw
  exact kk hz H1 locs1 hP1 (hD1.weaken (fun _ _ _ h => hF _ h)) hS1
theorem kcw_l {ws ws' : va_W} {v : Int64} (hr : va_Run p l e rm s m args below meth c H locs cells slots 0 0 (F0 m pc ls st0) rest (va_Ql (fun (r : Int64) (_ : Unit) => r = v) (kB D ws ws' H.size) (va_A ws H.size) a) (va_A ws H.size)) (hD : va_D A ws) (hS : va_S A H0 H locs) (hA : ∀ q : Nat, H0.size ≤ q → A q)
    (kk : ∀ (H1 : Heap) (locs1 : List Loc), va_P D vwCl ws' H1 → va_D A ws' → va_S A H0 H1 locs1 → W p l e rm s m args below meth c H1 locs1 cells slots Q (F0 m (pc + 3) ls (.long v :: rest))) : W p l e rm s m args below meth c H locs cells slots Q (F0 m pc ls st0) := by
  have hF := fr_all hD hS hA
  refine va_calll hr hS (fun q _ h => hF q h) hF (fun r u t H1 locs1 ht hvm hw hB hz1 hk1 hS1 => ?_)
  obtain ⟨hP1, hD1⟩ := hB
  rw [ht] at hP1
  subst hw
  exact kk H1 locs1 hP1 (hD1.weaken (fun _ _ _ h => hF _ h)) hS1
theorem kcw_v {ws ws' : va_W} (hr : va_Run p l e rm s m args below meth c H locs cells slots 0 0 (F0 m pc ls st0) rest (va_Qv (fun (_ : Unit) => True) (kB D ws ws' H.size) (va_A ws H.size) a) (va_A ws H.size)) (hD : va_D A ws) (hS : va_S A H0 H locs) (hA : ∀ q : Nat, H0.size ≤ q → A q)
    (kk : ∀ (H1 : Heap) (locs1 : List Loc), va_P D vwCl ws' H1 → va_D A ws' → va_S A H0 H1 locs1 → W p l e rm s m args below meth c H1 locs1 cells slots Q (F0 m (pc + 3) ls rest)) : W p l e rm s m args below meth c H locs cells slots Q (F0 m pc ls st0) := by
  have hF := fr_all hD hS hA
  refine va_callv hr hS (fun q _ h => hF q h) hF (fun u t H1 locs1 ht hvm hw hB hz1 hk1 hS1 => ?_)
  obtain ⟨hP1, hD1⟩ := hB
  rw [ht] at hP1
  exact kk H1 locs1 hP1 (hD1.weaken (fun _ _ _ h => hF _ h)) hS1
/-- calls: a part of the world given -/
theorem kcg_i {ws wc wc' wr ws2 : va_W} {v : Int32} {ty : FieldType} (hr : va_Run p l e rm s m args below meth c H locs cells slots 0 0 (F0 m pc ls st0) rest (va_Qi (fun (r : Int32) (_ : Unit) => r = v ∧ narrow ty (.int r) = .int r) (kB D wc wc' H.size) (va_A wc H.size) a) (va_A wc H.size)) (hP : va_P D vwCl ws H) (hD : va_D A ws) (hS : va_S A H0 H locs) (hA : ∀ q : Nat, H0.size ≤ q → A q) (isC isR perm : List Nat) (hC : isC.map (fun i => ws[i]?) = wc.map some) (hR : isR.map (fun i => ws[i]?) = wr.map some) (hn : va_nd isR = true) (hdis : ∀ i ∈ isR, i ∉ isC) (hp : perm.map (fun i => (wr ++ wc')[i]?) = ws2.map some) (hpn : va_nd perm = true)
    (kk : narrow ty (.int v) = .int v → ∀ (H1 : Heap) (locs1 : List Loc), va_P D vwCl ws2 H1 → va_D A ws2 → va_S A H0 H1 locs1 → W p l e rm s m args below meth c H1 locs1 cells slots Q (F0 m (pc + 3) ls (.int v :: rest))) : W p l e rm s m args below meth c H locs cells slots Q (F0 m pc ls st0) := by
  have hF : ∀ q, va_A wc H.size q → A q := va_free (wc := wc) hD hS hA isC hC
  refine va_calli hr hS (fun q _ h => hF q h) hF (fun r u t H1 locs1 ht hvm hw hB hz1 hk1 hS1 => ?_)
  obtain ⟨hP1, hD1⟩ := hB
  rw [ht] at hP1
  obtain ⟨hw, hz⟩ := hw
  subst hw
  obtain ⟨a1, a2⟩ := fr_gen hP hD isC isR perm hC hR hn hdis hp hpn hk1 hF hP1 hD1
  exact kk hz H1 locs1 a1 a2 hS1
theorem kcg_l {ws wc wc' wr ws2 : va_W} {v : Int64} (hr : va_Run p l e rm s m args below meth c H locs cells slots 0 0 (F0 m pc ls st0) rest (va_Ql (fun (r : Int64) (_ : Unit) => r = v) (kB D wc wc' H.size) (va_A wc H.size) a) (va_A wc H.size)) (hP : va_P D vwCl ws H) (hD : va_D A ws) (hS : va_S A H0 H locs) (hA : ∀ q : Nat, H0.size ≤ q → A q) (isC isR perm : List Nat) (hC : isC.map (fun i => ws[i]?) = wc.map some) (hR : isR.map (fun i => ws[i]?) = wr.map some) (hn : va_nd isR = true) (hdis : ∀ i ∈ isR, i ∉ isC) (hp : perm.map (fun i => (wr ++ wc')[i]?) = ws2.map some) (hpn : va_nd perm = true)
    (kk : ∀ (H1 : Heap) (locs1 : List Loc), va_P D vwCl ws2 H1 → va_D A ws2 → va_S A H0 H1 locs1 → W p l e rm s m args below meth c H1 locs1 cells slots Q (F0 m (pc + 3) ls (.long v :: rest))) : W p l e rm s m args below meth c H locs cells slots Q (F0 m pc ls st0) := by
  have hF : ∀ q, va_A wc H.size q → A q := va_free (wc := wc) hD hS hA isC hC
  refine va_calll hr hS (fun q _ h => hF q h) hF (fun r u t H1 locs1 ht hvm hw hB hz1 hk1 hS1 => ?_)
  obtain ⟨hP1, hD1⟩ := hB
  rw [ht] at hP1
  subst hw
  obtain ⟨a1, a2⟩ := fr_gen hP hD isC isR perm hC hR hn hdis hp hpn hk1 hF hP1 hD1
  exact kk H1 locs1 a1 a2 hS1
theorem kcg_v {ws wc wc' wr ws2 : va_W} (hr : va_Run p l e rm s m args below meth c H locs cells slots 0 0 (F0 m pc ls st0) rest (va_Qv (fun (_ : Unit) => True) (kB D wc wc' H.size) (va_A wc H.size) a) (va_A wc H.size)) (hP : va_P D vwCl ws H) (hD : va_D A ws) (hS : va_S A H0 H locs) (hA : ∀ q : Nat, H0.size ≤ q → A q) (isC isR perm : List Nat) (hC : isC.map (fun i => ws[i]?) = wc.map some) (hR : isR.map (fun i => ws[i]?) = wr.map some) (hn : va_nd isR = true) (hdis : ∀ i ∈ isR, i ∉ isC) (hp : perm.map (fun i => (wr ++ wc')[i]?) = ws2.map some) (hpn : va_nd perm = true)
    (kk : ∀ (H1 : Heap) (locs1 : List Loc), va_P D vwCl ws2 H1 → va_D A ws2 → va_S A H0 H1 locs1 → W p l e rm s m args below meth c H1 locs1 cells slots Q (F0 m (pc + 3) ls rest)) : W p l e rm s m args below meth c H locs cells slots Q (F0 m pc ls st0) := by
  have hF : ∀ q, va_A wc H.size q → A q := va_free (wc := wc) hD hS hA isC hC
  refine va_callv hr hS (fun q _ h => hF q h) hF (fun u t H1 locs1 ht hvm hw hB hz1 hk1 hS1 => ?_)
  obtain ⟨hP1, hD1⟩ := hB
  rw [ht] at hP1
  obtain ⟨a1, a2⟩ := fr_gen hP hD isC isR perm hC hR hn hdis hp hpn hk1 hF hP1 hD1
  exact kk H1 locs1 a1 a2 hS1
/-- switches over 0, 1, 2 (3) -/
theorem sw_n {x : Int32} {n : Nat} (hn : n < 2 ^ 31) (h : ∀ k : Nat, k < n → ¬ x = nI k) : x.toInt < 0 ∨ (n : Int) - 1 < x.toInt := by
  by_cases h0 : x < 0
  · left
    have := Int32.lt_iff_toInt_lt.mp h0
    exact this
  · obtain ⟨j, hj, rfl⟩ := nI_of h0
    right
    rw [nI_toInt hj]
    by_cases hjn : j < n
    · exact absurd rfl (h j hjn)
    · omega
theorem lv_tab3 {cc : ByteArray} (hexec : p.tables.exec = Jvm.exec) (hb : c.code = cc) {dflt o0 o1 o2 : Int} {len : Nat} {x : Int32} {t0 t1 t2 td : Nat} (hdg : decode cc pc = .ok (.tableswitch dflt 0 2 #[o0, o1, o2], len)) (h0 : (pc : Int) + o0 = (t0 : Int)) (h1 : (pc : Int) + o1 = (t1 : Int)) (h2 : (pc : Int) + o2 = (t2 : Int)) (hd : (pc : Int) + dflt = (td : Int))
    (k0 : x = 0 → W p l e rm s m args below meth c H locs cells slots Q (F0 m t0 ls rest)) (k1 : ¬ x = 0 → x = 1 → W p l e rm s m args below meth c H locs cells slots Q (F0 m t1 ls rest)) (k2 : ¬ x = 0 → ¬ x = 1 → x = 2 → W p l e rm s m args below meth c H locs cells slots Q (F0 m t2 ls rest)) (kd : ¬ x = 0 → ¬ x = 1 → ¬ x = 2 → W p l e rm s m args below meth c H locs cells slots Q (F0 m td ls rest)) : W p l e rm s m args below meth c H locs cells slots Q (F0 m pc ls (.int x :: rest)) := by
  by_cases c0 : x = 0
  · exact lv_tableIn hexec hb hdg (by rw [c0]; decide) (by rw [c0]; decide) (off := o0) (by rw [c0]; rfl) h0 (k0 c0)
  · by_cases c1 : x = 1
    · exact lv_tableIn hexec hb hdg (by rw [c1]; decide) (by rw [c1]; decide) (off := o1) (by rw [c1]; rfl) h1 (k1 c0 c1)
    · by_cases c2 : x = 2
      · exact lv_tableIn hexec hb hdg (by rw [c2]; decide) (by rw [c2]; decide) (off := o2) (by rw [c2]; rfl) h2 (k2 c0 c1 c2)
      · refine lv_tableOut hexec hb hdg ?_ hd (kd c0 c1 c2)
        exact sw_n (n := 3) (by decide) (fun k hk => by rcases (show k = 0 ∨ k = 1 ∨ k = 2 by omega) with rfl | rfl | rfl <;> assumption)
theorem lv_tab4 {cc : ByteArray} (hexec : p.tables.exec = Jvm.exec) (hb : c.code = cc) {dflt o0 o1 o2 o3 : Int} {len : Nat} {x : Int32} {t0 t1 t2 t3 td : Nat} (hdg : decode cc pc = .ok (.tableswitch dflt 0 3 #[o0, o1, o2, o3], len)) (h0 : (pc : Int) + o0 = (t0 : Int)) (h1 : (pc : Int) + o1 = (t1 : Int)) (h2 : (pc : Int) + o2 = (t2 : Int)) (h3 : (pc : Int) + o3 = (t3 : Int)) (hd : (pc : Int) + dflt = (td : Int))
    (k0 : x = 0 → W p l e rm s m args below meth c H locs cells slots Q (F0 m t0 ls rest)) (k1 : ¬ x = 0 → x = 1 → W p l e rm s m args below meth c H locs cells slots Q (F0 m t1 ls rest)) (k2 : ¬ x = 0 → ¬ x = 1 → x = 2 → W p l e rm s m args below meth c H locs cells slots Q (F0 m t2 ls rest)) (k3 : ¬ x = 0 → ¬ x = 1 → ¬ x = 2 → x = 3 → W p l e rm s m args below meth c H locs cells slots Q (F0 m t3 ls rest)) (kd : ¬ x = 0 → ¬ x = 1 → ¬ x = 2 → ¬ x = 3 → W p l e rm s m args below meth c H locs cells slots Q (F0 m td ls rest)) : W p l e rm s m args below meth c H locs cells slots Q (F0 m pc ls (.int x :: rest)) := by
  by_cases c0 : x = 0
  · exact lv_tableIn hexec hb hdg (by rw [c0]; decide) (by rw [c0]; decide) (off := o0) (by rw [c0]; rfl) h0 (k0 c0)
  · by_cases c1 : x = 1
    · exact lv_tableIn hexec hb hdg (by rw [c1]; decide) (by rw [c1]; decide) (off := o1) (by rw [c1]; rfl) h1 (k1 c0 c1)
    · by_cases c2 : x = 2
      · exact lv_tableIn hexec hb hdg (by rw [c2]; decide) (by rw [c2]; decide) (off := o2) (by rw [c2]; rfl) h2 (k2 c0 c1 c2)
      · by_cases c3 : x = 3
        · exact lv_tableIn hexec hb hdg (by rw [c3]; decide) (by rw [c3]; decide) (off := o3) (by rw [c3]; rfl) h3 (k3 c0 c1 c2 c3)
        · refine lv_tableOut hexec hb hdg ?_ hd (kd c0 c1 c2 c3)
          exact sw_n (n := 4) (by decide) (fun k hk => by rcases (show k = 0 ∨ k = 1 ∨ k = 2 ∨ k = 3 by omega) with rfl | rfl | rfl | rfl <;> assumption)
theorem lv_look3 {cc : ByteArray} (hexec : p.tables.exec = Jvm.exec) (hb : c.code = cc) {dflt o0 o1 o2 : Int} {len : Nat} {x : Int32} {t0 t1 t2 td : Nat} (hdg : decode cc pc = .ok (.lookupswitch dflt #[(43, o0), (45, o1), (62, o2)], len)) (h0 : (pc : Int) + o0 = (t0 : Int)) (h1 : (pc : Int) + o1 = (t1 : Int)) (h2 : (pc : Int) + o2 = (t2 : Int)) (hd : (pc : Int) + dflt = (td : Int))
    (k0 : x = 43 → W p l e rm s m args below meth c H locs cells slots Q (F0 m t0 ls rest)) (k1 : ¬ x = 43 → x = 45 → W p l e rm s m args below meth c H locs cells slots Q (F0 m t1 ls rest)) (k2 : ¬ x = 43 → ¬ x = 45 → x = 62 → W p l e rm s m args below meth c H locs cells slots Q (F0 m t2 ls rest)) (kd : ¬ x = 43 → ¬ x = 45 → ¬ x = 62 → W p l e rm s m args below meth c H locs cells slots Q (F0 m td ls rest)) : W p l e rm s m args below meth c H locs cells slots Q (F0 m pc ls (.int x :: rest)) := by
  by_cases c0 : x = 43
  · exact lv_lookup hexec hb hdg rfl (off := o0) (by rw [c0]; rfl) h0 (k0 c0)
  · by_cases c1 : x = 45
    · exact lv_lookup hexec hb hdg rfl (off := o1) (by rw [c1]; rfl) h1 (k1 c0 c1)
    · by_cases c2 : x = 62
      · exact lv_lookup hexec hb hdg rfl (off := o2) (by rw [c2]; rfl) h2 (k2 c0 c1 c2)
      · have e0 : ¬ x.toInt = 43 := fun h => c0 (Int32.toInt_inj.mp h)
        have e1 : ¬ x.toInt = 45 := fun h => c1 (Int32.toInt_inj.mp h)
        have e2 : ¬ x.toInt = 62 := fun h => c2 (Int32.toInt_inj.mp h)
        refine lv_lookup hexec hb hdg rfl (off := dflt) ?_ hd (kd c0 c1 c2)
        simp [Op.lookupswitch.offset, e0, e1, e2, Ne.symm e0, Ne.symm e1, Ne.symm e2, eq_comm]
end ZK
/-! partial functions: what the walks compute -/
def bd {α β : Type} (x : α) (f : α → β) : β := f x
def ob {α β : Type} (x : Option α) (f : α → Option β) : Option β := match x with
  | none => none
  | some a => f a
def ret2 {α β : Type} (f : α → Option β) (x : α ⊕ β) : Option β := match x with
  | .inl a => f a
  | .inr b => some b
def oob (i : Int32) (n : Nat) : Bool := decide (i < 0) || decide (n ≤ i.toNatClampNeg)
def chk {α : Type} (i : Int32) (n : Nat) (x : Option α) : Option α := if oob i n = true then none else x
def nzi {α : Type} (y : Int32) (x : Option α) : Option α := if y = 0 then none else x
def nzl {α : Type} (y : Int64) (x : Option α) : Option α := if y = 0 then none else x
def wk {σ ρ : Type} (f : σ → Option ρ) : σ ⊕ ρ → Option ρ
  | .inl s => f s
  | .inr r => some r
def wh {σ ρ : Type} (step : σ → Option (σ ⊕ ρ)) : Nat → σ → Option ρ
  | 0, _ => none
  | n + 1, s => ob (step s) (wk (wh step n))
theorem bd_el {α β : Type} {x : α} {f : α → β} {out : β} (h : bd x f = out) : ∃ o, x = o ∧ f o = out := ⟨x, rfl, h⟩
theorem ob_el {α β : Type} {x : Option α} {f : α → Option β} {out : β} (h : ob x f = some out) : ∃ o, x = some o ∧ f o = some out := by
  cases x with
  | none => cases h
  | some a => exact ⟨a, rfl, h⟩
theorem oob_in {i : Int32} {n : Nat} (h : ¬ oob i n = true) : vp_in i n := by
  intro q
  apply h
  rcases q with q | q
  · simp [oob, q]
  · simp [oob, q]
theorem oob_no {i : Int32} {n : Nat} (h : vp_in i n) : oob i n = false := by
  cases e : oob i n with
  | false => rfl
  | true =>
    exfalso
    apply h
    simpa [oob] using e
theorem chk_el {α : Type} {i : Int32} {n : Nat} {x : Option α} {out : α} (h : chk i n x = some out) : vp_in i n ∧ x = some out := by
  unfold chk at h
  by_cases q : oob i n = true
  · rw [if_pos q] at h; cases h
  · rw [if_neg q] at h; exact ⟨oob_in q, h⟩
theorem chk_in {α : Type} {i : Int32} {n : Nat} (x : Option α) (h : vp_in i n) : chk i n x = x := by
  unfold chk
  rw [oob_no h]
  rfl
theorem nzi_el {α : Type} {y : Int32} {x : Option α} {out : α} (h : nzi y x = some out) : ¬ y = 0 ∧ x = some out := by
  unfold nzi at h
  by_cases q : y = 0
  · rw [if_pos q] at h; cases h
  · rw [if_neg q] at h; exact ⟨q, h⟩
theorem nzl_el {α : Type} {y : Int64} {x : Option α} {out : α} (h : nzl y x = some out) : ¬ y = 0 ∧ x = some out := by
  unfold nzl at h
  by_cases q : y = 0
  · rw [if_pos q] at h; cases h
  · rw [if_neg q] at h; exact ⟨q, h⟩
theorem wh_el {σ ρ : Type} {step : σ → Option (σ ⊕ ρ)} {n : Nat} {s : σ} {r : ρ} (h : wh step (n + 1) s = some r) : ∃ o, step s = some o ∧ wk (wh step n) o = some r := ob_el h
/-! the worlds -/
def shW (K : Nat → ClassId) (q : Nat → Nat) (w k r p b wi : Nat → Int32) (wc : Int32) (l ri o : Nat → Int32) (sc : Int32) : va_W := [(q 0, .inr (3, [.ref (q 1), .ref (q 2), .ref (q 3), .ref (q 4), .ref (q 5), .ref (q 6), .int wc, .ref (q 7), .ref (q 8), .ref (q 9), .int sc])), (q 1, .inl (K 0, 12, .inl w)), (q 2, .inl (K 0, 12, .inl k)), (q 3, .inl (K 0, 12, .inl r)), (q 4, .inl (K 0, 4, .inl p)), (q 5, .inl (K 0, 4, .inl b)), (q 6, .inl (K 0, 8, .inl wi)), (q 7, .inl (K 0, 6, .inl l)), (q 8, .inl (K 0, 6, .inl ri)), (q 9, .inl (K 0, 6, .inl o))]
def rdW (q : Nat) (aw ac sp wo ot : Int32) : va_W := [(q, .inr (0, [.int aw, .int ac, .int sp, .int wo, .int ot]))]
def rwW (q : Nat) (st ln : Int32) : va_W := [(q, .inr (2, [.int st, .int ln]))]
def dyW (q qs qr qw : Nat) (fp ac ba wy se sp he hw : Int32) : va_W := [(q, .inr (1, [.ref qs, .ref qr, .ref qw, .int fp, .int ac, .int ba, .int wy, .int se, .int sp, .int he, .int hw]))]
def xoW (q qs qy qi qg qd qm : Nat) (sgc : Int32) : va_W := [(q, .inr (4, [.ref qs, .ref qy, .ref qi, .ref qg, .int sgc, .ref qd, .ref qm]))]
def iaW (K : Nat → ClassId) (q n : Nat) (f : Nat → Int32) : va_W := [(q, .inl (K 0, n, .inl f))]
def laW (K : Nat → ClassId) (q n : Nat) (f : Nat → Int64) : va_W := [(q, .inl (K 1, n, .inr (.inl f)))]
def imW (K : Nat → ClassId) (q : Nat) (f : Nat → Option Nat) : va_W := [(q, .inl (K 3, 2, .inr (.inr (.inr (.inr f)))))]
def mdW (K : Nat → ClassId) (q : Nat → Nat) (vweight : Nat → Int32) (vkind : Nat → Int32) (vrhymes : Nat → Int32) (vpurse : Nat → Int32) (vhas : Nat → Int32) (vwishes : Nat → Int32) (vwishMany : Int32) (vsightLeft : Nat → Int32) (vsightRight : Nat → Int32) (vsightHow : Nat → Int32) (vsights : Int32) (vpad : Nat → Int32) (vpadMany : Int32) (vact : Nat → Int32) (vwho : Nat → Int32) (vwhich : Nat → Int32) (vwhom : Nat → Int32) (vacts : Int32) (vplace : Int32) (vopenMany : Int32) (vended : Int32) (vspoken : Int32) (vheaviest : Int32) (vheaviestWeight : Int32) (vhad : Nat → Int32) (vbadAct : Int32) (vbadWhy : Int32) (vbrings : Nat → Int64) (vbringsThen : Nat → Int64) (vkept : Nat → Int32) (visKept : Nat → Int32) (vkeptAt : Int32) (visWriting : Int32) : va_W := [(q 0, .inr (5, [.ref (q 1), .ref (q 2), .ref (q 3), .ref (q 4), .ref (q 5), .ref (q 6), .int vwishMany, .ref (q 7), .ref (q 8), .ref (q 9), .int vsights, .ref (q 10), .int vpadMany, .ref (q 11), .ref (q 12), .ref (q 13), .ref (q 14), .int vacts, .int vplace, .int vopenMany, .int vended, .int vspoken, .int vheaviest, .int vheaviestWeight, .ref (q 15), .int vbadAct, .int vbadWhy, .ref (q 16), .ref (q 17), .ref (q 18), .ref (q 19), .int vkeptAt, .int visWriting])), (q 1, .inl (K 0, 12, .inl vweight)), (q 2, .inl (K 0, 12, .inl vkind)), (q 3, .inl (K 0, 12, .inl vrhymes)), (q 4, .inl (K 0, 4, .inl vpurse)), (q 5, .inl (K 0, 4, .inl vhas)), (q 6, .inl (K 0, 8, .inl vwishes)), (q 7, .inl (K 0, 6, .inl vsightLeft)), (q 8, .inl (K 0, 6, .inl vsightRight)), (q 9, .inl (K 0, 6, .inl vsightHow)), (q 10, .inl (K 0, 60, .inl vpad)), (q 11, .inl (K 0, 60, .inl vact)), (q 12, .inl (K 0, 60, .inl vwho)), (q 13, .inl (K 0, 60, .inl vwhich)), (q 14, .inl (K 0, 60, .inl vwhom)), (q 15, .inl (K 0, 20, .inl vhad)), (q 16, .inl (K 1, 50, .inr (.inl vbrings))), (q 17, .inl (K 1, 50, .inr (.inl vbringsThen))), (q 18, .inl (K 0, 180, .inl vkept)), (q 19, .inl (K 2, 2, .inl visKept))]
