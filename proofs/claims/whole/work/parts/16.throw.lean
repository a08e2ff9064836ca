/-! THROWS: contracts of calls that end in an exception; leaving a method by one; catching one by name, the row's class resolved or not. (The rows on statics, vx_L to vx_isRefq, are pasted from the claim's printed names.) -/
/-- where a static field lies, its class's statics cell in H -/
def vx_L (C n d : String) (A : Nat → Prop) (U : State) (H : Heap) : Prop := ∃ (c : ClassId) (k : Class) (i : Nat) (f : Field) (a : Nat) (cell : Cell), U.vm.findClass C = some c ∧ U.fieldFound? C n d = some (c, k, i, f) ∧ f.isStatic = true ∧ k.statics = some a ∧ H[a]? = some cell ∧ cell.vm.isStatics = true ∧ cell.cls = c ∧ f.slot < cell.slots.size ∧ k.staticTypes[f.slot]? = some f.type ∧ ¬ A a
theorem vx_L.moved {C n d : String} {A : Nat → Prop} {u U : State} {H : Heap} (hvm : u.vm.Alike U.vm) (h : vx_L C n d A u H) : vx_L C n d A U H := by
  obtain ⟨c, k, i, f, a, cell, h1, h2, h3, h4, h5, h6, h7, h8, h9, h10⟩ := h
  obtain ⟨k', hi', he⟩ := State.fieldFound?_setVm hvm h2
  exact ⟨c, k', i, f, a, cell, by rw [hvm.findClass]; exact h1, hi', h3, by rw [he]; exact h4, h5, h6, h7, h8, by rw [he]; exact h9, h10⟩
theorem vx_L.kept {C n d : String} {A : Nat → Prop} {U : State} {H H1 : Heap} (h : vx_L C n d A U H) (hq : ∀ a : Nat, a < H.size → ¬ A a → H1[a]? = H[a]?) : vx_L C n d A U H1 := by
  obtain ⟨c, k, i, f, a, cell, h1, h2, h3, h4, h5, h6, h7, h8, h9, h10⟩ := h
  exact ⟨c, k, i, f, a, cell, h1, h2, h3, h4, by rw [hq a (Array.getElem?_eq_some_iff.mp h5).1 h10]; exact h5, h6, h7, h8, h9, h10⟩
theorem vx_L.narrow {C n d : String} {A B : Nat → Prop} {U : State} {H : Heap} (h : vx_L C n d A U H) (hAB : ∀ q, B q → A q) : vx_L C n d B U H := by
  obtain ⟨c, k, i, f, a, cell, h1, h2, h3, h4, h5, h6, h7, h8, h9, h10⟩ := h
  exact ⟨c, k, i, f, a, cell, h1, h2, h3, h4, h5, h6, h7, h8, h9, fun z => h10 (hAB _ z)⟩
theorem vx_L.word {C n d : String} {A : Nat → Prop} {s : State} {args : Array Value} (h : vx_L C n d A s s.heap) : (Cond.laysStatic C n d).before args s = true := by
  obtain ⟨c, k, i, f, a, cell, h1, h2, h3, h4, h5, h6, h7, h8, h9, -⟩ := h
  show (Cond.laysStatic C n d).holds args s none s [] = true
  exact Cond.laysStatic_of h1 h2 h3 h4 h5 h6 h7 h8 h9
/-- .. and what it holds: null or some reference -/
def vx_Zq (C n d : String) (A : Nat → Prop) (U : State) (H : Heap) : Prop := va_Zq C n d A U H ∧ vx_L C n d A U H
theorem vx_Zq.moved {C n d : String} {A : Nat → Prop} {u U : State} {H : Heap} (hvm : u.vm.Alike U.vm) (h : vx_Zq C n d A u H) : vx_Zq C n d A U H := ⟨va_Zq.moved hvm h.1, vx_L.moved hvm h.2⟩
theorem vx_Zq.kept {C n d : String} {A : Nat → Prop} {U : State} {H H1 : Heap} (h : vx_Zq C n d A U H) (hq : ∀ a : Nat, a < H.size → ¬ A a → H1[a]? = H[a]?) : vx_Zq C n d A U H1 := ⟨va_Zq.kept h.1 hq, vx_L.kept h.2 hq⟩
theorem vx_Zq.narrow {C n d : String} {A B : Nat → Prop} {U : State} {H : Heap} (h : vx_Zq C n d A U H) (hAB : ∀ q, B q → A q) : vx_Zq C n d B U H := ⟨va_Zq.narrow h.1 hAB, vx_L.narrow h.2 hAB⟩
theorem vx_Zqof {args : Array Value} {s : State} {C n d : String} {A : Nat → Prop} (hl : (Cond.laysStatic C n d).before args s = true) (hini : (Cond.initialized C).before args s = true) (h : (Cond.isRef (.static C n d)).before args s = true) (hA : ∀ a : Nat, a < s.heap.size → ¬ A a) : vx_Zq C n d A s s.heap := by
  refine ⟨va_Zqof hl hini h hA, ?_⟩
  obtain ⟨c, k, i, f, a, cell, h1, h2, h3, h4, h5, h6, h7, h8, h9⟩ := Cond.laysStatic_spec hl
  exact ⟨c, k, i, f, a, cell, h1, h2, h3, h4, h5, h6, h7, h8, h9, hA a (Array.getElem?_eq_some_iff.mp h5).1⟩
theorem vx_isRef {C n d : String} {v : Value} {A : Nat → Prop} {s : State} {args : Array Value} (h : va_Z C n d v A s s.heap) (hv : v.isRef = true) : (Cond.isRef (.static C n d)).before args s = true := by
  obtain ⟨cf, kf, fi, f, a, cell, h1, h2, h3, h4, h5, h6, h7, -⟩ := h
  have he : (Term.static C n d).eval args s none [] s = some v := by
    simp [Term.eval, State.fieldNamed?, h1, h2, h4, h5, h6, h7]
  simp only [Cond.before, Cond.holds, Cond.value, he]
  cases v <;> simp_all [Value.isRef]
theorem vx_isRefq {C n d : String} {A : Nat → Prop} {s : State} {args : Array Value} (h : va_Zq C n d A s s.heap) : (Cond.isRef (.static C n d)).before args s = true := by
  rcases h with h | ⟨t, h⟩
  · exact vx_isRef h rfl
  · exact vx_isRef h rfl
/-- Throwable's two statics: references, that M doesn't name -/
def x_T (M : Nat → Prop) (U : State) (H : Heap) : Prop := vx_Zq "java/lang/Throwable" "UNASSIGNED_STACK" "[Ljava/lang/StackTraceElement;" M U H ∧ vx_Zq "java/lang/Throwable" "SUPPRESSED_SENTINEL" "Ljava/util/List;" M U H
theorem x_T.kept {M N : Nat → Prop} {U : State} {H H1 : Heap} (h : x_T M U H) (hk : g_K N H H1) (hNM : ∀ q, N q → M q := by first | exact fun _ h => h | exact fun _ h => h.elim Or.inl (fun h => Or.inr (Or.inl h))) : x_T M U H1 := ⟨h.1.kept (fun q h1 h2 => hk.2 q h1 (fun e => h2 (hNM _ e))), h.2.kept (fun q h1 h2 => hk.2 q h1 (fun e => h2 (hNM _ e)))⟩
theorem x_T.moved {M : Nat → Prop} {u U : State} {H : Heap} (h : x_T M u H) (hv : u.vm.Alike U.vm) : x_T M U H := ⟨vx_Zq.moved hv h.1, vx_Zq.moved hv h.2⟩
def x_PcT (D : va_G) (A : Nat → ClassId) (M : Nat → Prop) (av : List Value) (H0 : Heap) : Array Value → State → Prop := va_Pc av (fun U => U.heap = H0 ∧ va_K D x_cl (x_tys A) U ∧ x_E U ∧ x_T M U H0)
theorem x_blindT {D : va_G} {A : Nat → ClassId} {M : Nat → Prop} {av : List Value} {H0 : Heap} : FrameBlind (x_PcT D A M av H0) := fun a U g mk q => by
  obtain ⟨q0, q1, q2, q3, q4⟩ := q
  exact ⟨q0, q1, va_K.moved (u := U) (U := U.calling g mk a) (Vm.Alike.refl U.vm) q2, x_E.same (s := U) (U := U.calling g mk a) rfl q3, x_T.moved (u := U) (U := U.calling g mk a) q4 (Vm.Alike.refl U.vm)⟩
theorem x_preST {D : va_G} {A : Nat → ClassId} {M : Nat → Prop} {As : List Value} {H : Heap} {s : State} (hK : va_K D x_cl (x_tys A) s) (hN : x_E s) (hT : x_T M s H) : PreS s H (x_PcT D A M As H) As :=
  ⟨x_blindT, fun U hU hW => ⟨rfl, hU, va_K.moved hW.alike hK, hN.warm hW, hT.moved hW.alike⟩⟩
theorem x_preVT {D : va_G} {A : Nat → ClassId} {M : Nat → Prop} {As : List Value} {H : Heap} {s : State} {b ci : Nat} {fs : List Value} {q : vw_C} (hK : va_K D x_cl (x_tys A) s) (hN : x_E s) (hT : x_T M s H) (h : va_at D x_cl (b, .inr (ci, fs)) H) (hc : x_cl[ci]? = some q) : PreV s H q.1 b (x_PcT D A M (.ref b :: As) H) As :=
  ⟨x_blindT, va_recv hK (x_P1 h) (ci := ci) (q0 := 0) hc rfl, fun U hU hW => ⟨rfl, hU, va_K.moved hW.alike hK, hN.warm hW, hT.moved hW.alike⟩⟩
def x_ow : List Cond := x_tb ++ (x_nf ++ [.isRef (.static "java/lang/Throwable" "UNASSIGNED_STACK" "[Ljava/lang/StackTraceElement;"), .isRef (.static "java/lang/Throwable" "SUPPRESSED_SENTINEL" "Ljava/util/List;"), .laysStatic "java/lang/Throwable" "UNASSIGNED_STACK" "[Ljava/lang/StackTraceElement;", .laysStatic "java/lang/Throwable" "SUPPRESSED_SENTINEL" "Ljava/util/List;"])
abbrev x_up : List String := ["java/lang/RuntimeException", "java/lang/Exception"]
theorem ow_60 : ∀ w ∈ Bundle.ownAtoms "BreakingDisk" 60 "java/lang/IllegalArgumentException" x_up, w ∈ x_ow := by decide +kernel
theorem ow_90 : ∀ w ∈ Bundle.ownAtoms "BreakingDisk" 90 "java/lang/IllegalStateException" x_up, w ∈ x_ow := by decide +kernel
theorem ow_171 : ∀ w ∈ Bundle.ownAtoms "BreakingDisk" 171 "java/lang/IndexOutOfBoundsException" x_up, w ∈ x_ow := by decide +kernel
theorem x_nf_any : ∀ w ∈ x_nf, ∀ (args : Array Value) (U : State), va_Nw w U → w.before args U = true := List.forall_mem_cons.mpr ⟨fun _ _ q => va_Nw.use rfl q, List.forall_mem_cons.mpr ⟨fun _ _ q => va_Nw.use rfl q, List.forall_mem_cons.mpr ⟨fun _ _ q => va_Nw.use rfl q, List.forall_mem_cons.mpr ⟨fun _ _ q => va_AO.use q, List.forall_mem_cons.mpr ⟨fun _ _ q => va_Nw.use rfl q, List.forall_mem_cons.mpr ⟨fun _ _ q => va_Nw.use rfl q, List.forall_mem_cons.mpr ⟨fun _ _ q => va_AO.use q, List.forall_mem_cons.mpr ⟨fun _ _ q => va_Nw.use rfl q, List.forall_mem_cons.mpr ⟨fun _ _ q => va_Nw.use rfl q, List.forall_mem_cons.mpr ⟨fun _ _ q => va_Nw.use rfl q, List.forall_mem_cons.mpr ⟨fun _ _ q => va_Nw.use rfl q, List.forall_mem_cons.mpr ⟨fun _ _ q => va_Nw.use rfl q, List.forall_mem_cons.mpr ⟨fun _ _ q => va_Nw.use rfl q, List.forall_mem_cons.mpr ⟨fun _ _ q => va_Nw.use rfl q, List.forall_mem_cons.mpr ⟨fun _ _ q => va_Nw.use rfl q, List.forall_mem_cons.mpr ⟨fun _ _ q => va_Nw.use rfl q, List.forall_mem_cons.mpr ⟨fun _ _ q => va_Nw.use rfl q, List.forall_mem_cons.mpr ⟨fun _ _ q => va_Nw.use rfl q, List.forall_mem_cons.mpr ⟨fun _ _ q => va_Nw.use rfl q, List.forall_mem_cons.mpr ⟨fun _ _ q => va_Nw.use rfl q, List.forall_mem_cons.mpr ⟨fun _ _ q => va_Nw.use rfl q, List.forall_mem_cons.mpr ⟨fun _ _ q => va_Nw.use rfl q, List.forall_mem_cons.mpr ⟨fun _ _ q => va_Nw.use rfl q, List.forall_mem_cons.mpr ⟨fun _ _ q => va_Nw.use rfl q, List.forall_mem_cons.mpr ⟨fun _ _ q => va_Nw.use rfl q, List.forall_mem_cons.mpr ⟨fun _ _ q => va_Nw.use rfl q, fun _ h => absurd h List.not_mem_nil⟩⟩⟩⟩⟩⟩⟩⟩⟩⟩⟩⟩⟩⟩⟩⟩⟩⟩⟩⟩⟩⟩⟩⟩⟩⟩
theorem x_own {M : Nat → Prop} {s : State} {args : Array Value} (htb : ∀ w ∈ x_tb, w.before args s = true) (hN : x_E s) (hT : x_T M s s.heap) : ∀ w ∈ x_ow, w.before args s = true := fun w hw => by
  rcases List.mem_append.mp hw with h | h
  · exact htb w h
  · rcases List.mem_append.mp h with h | h
    · exact x_nf_any w h args s (hN.1 w h)
    · rcases List.mem_cons.mp h with rfl | h
      · exact vx_isRefq hT.1.1
      · rcases List.mem_cons.mp h with rfl | h
        · exact vx_isRefq hT.2.1
        · rcases List.mem_cons.mp h with rfl | h
          · exact hT.1.2.word
          · rcases List.mem_cons.mp h with rfl | h
            · exact hT.2.2.word
            · cases h
def x_MetT (l : Launch) (y : MethodName) (ws : List Cond) (rm : Room) (Pc : Array Value → State → Prop) (Qc : Array Value → State → Outcome → State → Prop) (mc ms : Nat) (free : Addr → Prop) : Prop :=
  MetFree l y (headSpec ws rm) Pc (fun _ _ _ _ _ => True) (fun a st o t => Qc a st o t ∧ ∃ L, FramedT st o t L mc ms ∧ ∀ q ∈ L, free q.base)
def x_MQT (below : List Frame) (Qc : Array Value → State → Outcome → State → Prop) (a : Array Value) (s : State) (mc ms : Nat) (free : Addr → Prop) : State → Prop := fun t =>
  ∃ o, t.status = .running ∧ Ended t below o ∧ Qc a s o t ∧ ∃ L, FramedT s o t L mc ms ∧ ∀ q ∈ L, free q.base
/-- the end of a call that throws an object of the class C: where it lies, what holds of the heap -/
def x_QT (C : String) (P : Heap → Prop) : Array Value → State → Outcome → State → Prop := fun _ st oc t => ∃ (x : Addr) (cell : Cell), oc = .threw x ∧ t.heap[x]? = some cell ∧ cell.vm = .none ∧ st.vm.findClass C = some cell.cls ∧ P t.heap
theorem x_ofWT {l : Launch} {y : MethodName} {ws ws' : List Cond} {rm : Room} {Pc : Array Value → State → Prop} {Qc : Array Value → State → Outcome → State → Prop} {mc ms : Nat} {free : Addr → Prop} {cc : ByteArray} {maxL : Nat} {ret : Option FieldType}
    (hy : plainName y.cls = true) (hw : ws = Cond.code y cc maxL ret :: ws')
    (body : ∀ p e s m args below meth c s₁, BodyLoose p l y (headSpec ws rm) cc maxL ret e s m args below meth c s₁ → c.maxLocals = maxL → Pc args s →
      W p l e (headSpec ws rm).room s m args below meth c s.heap [] 0 0 (x_MQT below Qc args s mc ms free) (entryFrame m args maxL)) : x_MetT l y ws rm Pc Qc mc ms free := by
  refine MetFree.of_bodyS (code := cc) (maxLocals := maxL) (ret := ret) hy (fun args s m h hn => ?_) (fun p e s m args below meth c s₁ B hml hP _ => ?_)
  · obtain ⟨meth, c, h1, h2, h3, h4, h5, h6, -, -⟩ := Cond.code_spec hn (atoms_spec (ws := ws) h _ (by rw [hw]; exact List.mem_cons_self))
    exact ⟨meth, c, h1, h2, h3, h4, h5, h6⟩
  · obtain ⟨t, a1, o, b1, b2, b3⟩ := body p e s m args below meth c s₁ B hml hP s₁ (by rw [B.state]; rfl) (Stand.of_body B)
    exact ⟨t, o, a1, b1, b2, b3⟩
/-- nothing was written that was there: all old cells are as they were -/
theorem x_kept {s t : State} {cells slots : Nat} (h : s.sameButNew ({ t with vm := s.vm } : State) [] cells slots) : s.heap.size ≤ t.heap.size ∧ ∀ q : Nat, q < s.heap.size → t.heap[q]? = s.heap[q]? := by
  obtain ⟨-, h1, -, -, -, h2⟩ := h
  refine ⟨h1, fun q hq => ?_⟩
  obtain ⟨c', e1, e2, e3, e4⟩ := h2 q s.heap[q] (Array.getElem?_eq_getElem hq)
  have e5 : c'.slots = s.heap[q].slots := Array.ext_getElem? fun i => e4 i (by simp)
  rw [e5] at e2
  have e6 : t.heap[q]? = some c' := e1
  rw [e6, Array.getElem?_eq_getElem hq, e2]
section XT
variable {p : Program} {l : Launch} {e : Env} {R : Room} {s : State} {m : MethodId} {args : Array Value} {below : List Frame} {meth : Method} {c : Code} {H : Heap} {locs : List Loc} {cells slots : Nat} {Q : State → Prop}
variable {cc : ByteArray} {pc : Nat} {ls : Array Slot} {rest : List Value}
/-- 'throw new X(text)', from the constructor's call on: nothing that was there has been written -/
theorem x_throw {Qc : Array Value → State → Outcome → State → Prop} {free : Addr → Prop} (hexec : p.tables.exec = Jvm.exec) (hb : c.code = cc) (htr : e.platform.stackTraces = false) (hml : c.maxLocals = ls.size) {own cls : String} {names : List String} {ic : Nat}
    (hown : s.vm.findClass own = some m.cls) (hcls : Bundle.fit cls = true) (hnames : ∀ n ∈ names, Bundle.fit n = true) (h : ∀ a ∈ Bundle.ownAtoms own ic cls names, a.before args s = true)
    {a : Addr} {cX : ClassId} {kX : Class} (hfoundX : s.vm.findClass cls = some cX) (hkX : s.vm.classes[cX]? = some kX) (hcell : H[a]? = some (freshCell cX kX)) (hnew : s.heap.size ≤ a) {msg : Value} (hmsg : msg.isRef = true)
    (hd6 : decode cc pc = .ok (.invokespecial ic, 3)) (hd9 : decode cc (pc + 3) = .ok (.athrow, 1)) (hout : c.exceptionTable.toList = [])
    (hRframes : names.length + 3 < R.frames) (hRlocals : (rest.map fun v => v.category).sum + (13 * (names.length + 1) + 43) ≤ R.locals)
    (hq : ∀ (t : State) (cell : Cell), t.heap[a]? = some cell → cell.vm = .none → s.vm.findClass cls = some cell.cls → s.heap.size ≤ t.heap.size → (∀ q : Nat, q < s.heap.size → t.heap[q]? = s.heap[q]?) → Qc args s (.threw a) t) (hlocks : meth.locks = false) :
    W p l e R s m args below meth c H [] cells slots (x_MQT below Qc args s cells slots free) (F0 m pc ls (msg :: .ref a :: .ref a :: rest)) := by
  intro T hT X
  subst hb
  obtain ⟨U, hst, hrun, hend, hW, hsame, ce, hce, hoc⟩ := X.ctorThrowS hexec htr (own := own) (cls := cls) (names := names) (ic := ic) hown hcls hnames h (fun x hx => by cases hx) hfoundX hkX (by rw [hT]; exact hcell) hnew hmsg (g := F0 m pc ls (msg :: .ref a :: .ref a :: rest)) rfl hml.symm rfl rfl (rest := rest) rfl hd6 hd9 (fun x hx => by rw [hout] at hx; cases hx) hRframes
    (by
      have e0 : (Value.ref a).category = 1 := rfl
      rw [List.map_cons, List.sum_cons, e0]
      show 2 * 0 + _ + _ ≤ _
      omega)
  obtain ⟨k1, k2⟩ := x_kept hsame
  exact ⟨U, hst, .threw a, hrun, hend, hq U ce hce hoc.vm hoc.cls k1 k2, [], ⟨⟨a, rfl⟩, hW, hsame⟩, fun q hq => by cases hq⟩
/-- 'throw new X(text)' -/
theorem x_thr {Qc : Array Value → State → Outcome → State → Prop} {free : Addr → Prop} (hexec : p.tables.exec = Jvm.exec) (hb : c.code = cc) (hl : l.stackTraces = false) (hml : c.maxLocals = ls.size) {own cls tx : String} {names : List String} {ik is ic : Nat}
    (hown : s.vm.findClass own = some m.cls) (hcls : Bundle.fit cls = true) (hnames : ∀ n ∈ names, Bundle.fit n = true) (h : ∀ a ∈ Bundle.ownAtoms own ic cls names, a.before args s = true) (hk : (Cond.classLink own ik cls).before args s = true) (hini : (Cond.initialized cls).before args s = true) (hins : (Cond.instantiable cls 6).before args s = true) (hstr : ∃ a, vk_R own is tx a s)
    (d0 : decode cc pc = .ok (.new ik, 3)) (d3 : decode cc (pc + 3) = .ok (.dup, 1)) (d4 : decode cc (pc + 3 + 1) = .ok (.ldc is, 2)) (d6 : decode cc (pc + 3 + 1 + 2) = .ok (.invokespecial ic, 3)) (d9 : decode cc (pc + 3 + 1 + 2 + 3) = .ok (.athrow, 1)) (hout : c.exceptionTable.toList = [])
    (hRframes : names.length + 3 < R.frames) (hRlocals : (rest.map fun v => v.category).sum + (13 * (names.length + 1) + 43) ≤ R.locals) (hcells : cells + 1 ≤ R.cells) (hslots : slots + 6 ≤ R.slots) (hge : s.heap.size ≤ H.size)
    (hq : ∀ (t : State) (cell : Cell), t.heap[H.size]? = some cell → cell.vm = .none → s.vm.findClass cls = some cell.cls → s.heap.size ≤ t.heap.size → (∀ q : Nat, q < s.heap.size → t.heap[q]? = s.heap[q]?) → Qc args s (.threw H.size) t) (hlocks : meth.locks = false) :
    W p l e R s m args below meth c H [] cells slots (x_MQT below Qc args s (cells + 1) (slots + 6) free) (F0 m pc ls rest) := by
  obtain ⟨sa, hsa⟩ := hstr
  refine W.newc hexec hb hown hk hins hini rfl d0 hcells hslots fun cC kC f1 f2 f3 f4 => ?_
  refine W.eq (g2 := F0 m (pc + 3) ls (.ref H.size :: rest)) rfl ?_
  refine lv_dup hexec hb d3 rfl ?_
  refine va_ldcS hexec hb hown hsa d4 ?_
  intro T hT X
  have htr : e.platform.stackTraces = false := (show e.platform.stackTraces = l.stackTraces by rw [X.admits.platform]).trans hl
  exact x_throw hexec hb htr hml hown hcls hnames h f1 f2 (by simp [freshCell]) hge rfl d6 d9 hout hRframes hRlocals hq hlocks T hT X
/-- a call that throws -/
def x_RunT (p : Program) (l : Launch) (e : Env) (R : Room) (s : State) (m : MethodId) (args : Array Value) (below : List Frame) (meth : Method) (c : Code) (H : Heap) (locs : List Loc) (cells slots mc ms : Nat) (g : JFrame) (rest : List Value) (Qa : State → Outcome → State → Prop) (free : Addr → Prop) : Prop :=
  ∀ T : State, T.heap = H → Stand p l e R s m args below meth c T locs cells slots → ∃ (x : Addr) (st₀ t T' : State) (L : List Loc), st₀.heap = H ∧ s.vm.Alike st₀.vm ∧ Stand p l e R s m args below meth c T' (locs ++ L) (cells + mc) (slots + ms) ∧ (∀ q ∈ L, free q.base) ∧ T'.heap = t.heap ∧ Qa st₀ (.threw x) t ∧
    Steps p.tables e below (T.setTop g) ((T'.setTop { g with stack := rest }).pushFrame (.throwing x))
/-- the callee's own run, from the invocation to the note over the caller's frame -/
theorem x_invT {y : MethodName} {ws : List Cond} {rm : Room} {Pc : Array Value → State → Prop} {Qc : Array Value → State → Outcome → State → Prop} {mc ms : Nat} {free : Addr → Prop} {bytes : ByteArray} {maxL : Nat} {ret : Option FieldType}
    (hM : x_MetT l y ws rm Pc Qc mc ms free) (hbl : FrameBlind Pc) (hrc : rm.cells = mc) (hrs : rm.slots = ms) (hfr : rm.frames + 1 ≤ R.frames) (hlo : 8 + (maxL + 11) + rm.locals ≤ R.locals)
    {U : State} (X : Stand p l e R s m args below meth c U locs cells slots) (hws : ∀ (a' : Array Value), ∀ w ∈ ws, w.before a' U = true) (hcode : ∀ (a' : Array Value), (Cond.code y bytes maxL ret).before a' U = true) (hini : ∀ (a' : Array Value), (Cond.initialized y.cls).before a' U = true)
    {g : JFrame} (hg : g.method = m) (hsize : g.locals.size = c.maxLocals) {ig : Instr} {len : Nat} (hdg : decode c.code g.pc = .ok (ig, len)) (hW : 2 * g.monitorRoom + (g.stack.map fun v => v.category).sum ≤ 8)
    {mk : MethodId} (hn : U.methodNamed? y = some mk) (hf : cells + mc ≤ R.cells ∧ slots + ms ≤ R.slots) {a : Array Value} (hP : Pc a U) :
    ∃ (x : Addr) (t T' : State) (L : List Loc), Stand p l e R s m args below meth c T' (locs ++ L) (cells + mc) (slots + ms) ∧ (∀ q ∈ L, free q.base) ∧ T'.heap = t.heap ∧ Qc a (U.calling g mk a) (.threw x) t ∧
      Steps p.tables e below (doInvoke e (U.setTop g) [] mk a).1 ((T'.setTop g).pushFrame (.throwing x)) := by
  subst hg
  obtain ⟨methY, cY, hmY, hcY, -, hlY, -, -, -, -⟩ := Cond.code_spec hn (hcode a)
  obtain ⟨kY, hkY, -⟩ := className_of_methodNamed hn
  have hinitY : kY.init = .initialized := Cond.initialized_spec (findClass_of_methodNamed hn) hkY (hini a)
  have hat : At U g.method c below := X.here
  have hroom := X.room_calling (g := g) (R' := rm) (args' := a) hsize hmY hcY hfr (by rw [hlY]; omega) (by rw [hrc]; exact hf.1) (by rw [hrs]; exact hf.2)
  have happ : (headSpec ws rm).appliesLoose y e.platform (U.calling g mk a) = true := Spec.appliesLoose_calling (g := g) hat hdg hn hkY hinitY hroom (atoms_intro (hws a))
  obtain ⟨mid, hmid⟩ := hat.above
  obtain ⟨o, u, hst, -, hend, hq, L, ⟨⟨x, rfl⟩, hWu, e2, q2, q3, q4, q5, q6⟩, hL⟩ := Steps.callFree hM p X.admits X.cas X.clock (acts := []) (s := U.setTop g) (m := mk) (args := a) (mid := .java g :: mid) (below := below) (by rw [State.frames_setTop' g hat.top, hmid]; rfl) happ (hbl a U g mk hP) trivial
  have hWu : U.WarmedH u.vm := hWu
  obtain ⟨g0, hg0⟩ := Option.isSome_iff_exists.mp hat.top
  obtain ⟨r, hr⟩ := State.topJava?_eq_some.mp hg0
  obtain ⟨th, hth, -⟩ := State.frames_cons hr
  have hfu : u.frames = .throwing x :: .java g :: U.frames.tail := by
    have h0 := hend
    rw [State.frames_setTop' g hat.top] at h0
    exact h0
  generalize hT' : (({ U with heap := u.heap, slotsUsed := u.slotsUsed } : State).setVm u.vm) = T'
  have hrT : T'.frames = .java g0 :: r := by rw [← hT']; exact hr
  have hu : u = (T'.setTop g).pushFrame (.throwing x) := by
    have h1 : u = ({ u with vm := ((U.setTop g).pushFrame (.invoking mk a)).vm } : State).setVm u.vm := rfl
    rw [e2] at h1
    have hR : (T'.setTop g).pushFrame (.throwing x) = T'.setFrames (.throwing x :: .java g :: r) := by
      rw [State.pushFrame, State.frames_setTop _ hrT, State.setTop_of_frames _ hrT, State.setFrames_setFrames]
    refine h1.trans ?_
    rw [hR, ← hT']
    show ({ (U.calling g mk a).setFrames u.frames with heap := u.heap, slotsUsed := u.slotsUsed } : State).setVm u.vm = _
    rw [hfu, State.calling_eq hat.top, State.setFrames_setFrames, hr]
    rfl
  have hsame : U.sameButNew ({ U with heap := u.heap, slotsUsed := u.slotsUsed } : State) L mc ms := by
    refine ⟨?_, q2, q3, q4, q5, q6⟩
    show ({ U with heap := u.heap, slotsUsed := u.slotsUsed } : State) = { U.setFrames U.frames with heap := u.heap, slotsUsed := u.slotsUsed }
    rw [State.setFrames_self hth]
  have XT : Stand p l e R s g.method args below meth c T' (locs ++ L) (cells + mc) (slots + ms) := by
    rw [← hT']
    exact ⟨X.admits, X.cas, X.clock, X.frames, X.room, X.hears, X.method, X.code, (X.here.setHeapUsed u.heap u.slotsUsed).setVm hWu.alike, X.tail, State.WarmedH.trans X.warmed hWu, X.limits, X.bytes, X.same.trans (hsame.setVm s.vm)⟩
  refine ⟨x, u, T', L, XT, hL, by rw [← hT']; rfl, hq, ?_⟩
  rw [← hu]
  exact hst
theorem x_runST {y : MethodName} {bytes : ByteArray} {maxL nL mc ms n index : Nat} {ret : Option FieldType} {ws : List Cond} {rm : Room} {Pc : Array Value → State → Prop} {Qc : Array Value → State → Outcome → State → Prop} {free : Addr → Prop} {Ts : List Cond} {own : String} {As : List Value} {g : JFrame}
    (S : CallFix p m c cc nL s args Ts own) (hM : x_MetT l y ws rm Pc Qc mc ms free) (cw : CallB R s args own index y bytes maxL ret ws rm mc ms n ∧ (Cond.static y).before args s = true) (hp : PreS s H Pc As)
    (hg : g.method = m) (hn : As.length = n) (hsize : g.locals.size = nL) (hstack : g.stack = As.reverse ++ rest) (hW : 2 * g.monitorRoom + (rest.map fun v => v.category).sum ≤ 8) (hdg : decode cc g.pc = .ok (.invokestatic index, 3)) (hf : cells + mc ≤ R.cells ∧ slots + ms ≤ R.slots) :
    x_RunT p l e R s m args below meth c H locs cells slots mc ms g rest (Qc As.toArray) free := by
  obtain ⟨⟨hrc, hrs, hfr, hlo, hws, hcw, hcode, hini, hy, hlen, hl⟩, hstt⟩ := cw
  obtain ⟨hx, hb, hml, ho, -⟩ := S
  intro T hT X
  subst hb
  obtain ⟨mk, hnamed⟩ := Cond.code_named hcode
  obtain ⟨methM, cM, hmethM, -, -, -, -, -, -, hsigM⟩ := Cond.code_spec hnamed hcode
  obtain ⟨kP, hkP, -⟩ := className_of_methodNamed hnamed
  obtain ⟨vm₁, X₁, hst₁⟩ := X.invokestatic hx ho hl hnamed hmethM (Cond.static_spec hnamed hmethM hstt) hkP (Cond.initialized_spec (findClass_of_methodNamed hnamed) hkP hini) hy (g := g) hg (argsL := As) (rest := rest) (hn.trans (hlen _ hsigM)) hstack hdg
  obtain ⟨x, t, T', L, XT, hL, e1, hq, hst⟩ := x_invT (bytes := bytes) (maxL := maxL) (ret := ret) hM hp.1 hrc hrs hfr hlo X₁ (fun a' w hw => hws w hw a' _ X₁.warmed) (fun a' => hws _ hcw a' _ X₁.warmed) (fun a' => word_at X₁.warmed (Or.inl (by first | rfl | simp [Cond.onTables, Cond.keeps, Cond.steady])) hini) (g := { g with stack := rest }) hg (hsize.trans hml.symm) hdg hW (X₁.named hnamed) hf (hp.2 (T.setVm vm₁) hT X₁.warmed)
  exact ⟨x, (T.setVm vm₁).calling { g with stack := rest } mk As.toArray, t, T', L, hT, X₁.warmed.alike, XT, hL, e1, hq, hst₁ _ fun acts => by rw [doInvoke_state]; exact hst⟩
theorem x_runVT {y : MethodName} {bytes : ByteArray} {maxL nL mc ms n index : Nat} {ret : Option FieldType} {ws : List Cond} {rm : Room} {Pc : Array Value → State → Prop} {Qc : Array Value → State → Outcome → State → Prop} {free : Addr → Prop} {Ts : List Cond} {own C : String} {b : Addr} {As : List Value} {g : JFrame}
    (S : CallFix p m c cc nL s args Ts own) (hM : x_MetT l y ws rm Pc Qc mc ms free) (cw : CallW R s args own C index y bytes maxL ret ws rm mc ms n) (hp : PreV s H C b Pc As)
    (hg : g.method = m) (hn : As.length = n) (hsize : g.locals.size = nL) (hstack : g.stack = As.reverse ++ .ref b :: rest) (hW : 2 * g.monitorRoom + (rest.map fun v => v.category).sum ≤ 8) (hdg : decode cc g.pc = .ok (.invokevirtual index, 3)) (hf : cells + mc ≤ R.cells ∧ slots + ms ≤ R.slots) :
    x_RunT p l e R s m args below meth c H locs cells slots mc ms g rest (Qc (Value.ref b :: As).toArray) free := by
  obtain ⟨⟨hrc, hrs, hfr, hlo, hws, hcw, hcode, hini, hy, hlen, hl⟩, hin, hse⟩ := cw
  obtain ⟨hx, hb, hml, ho, -⟩ := S
  obtain ⟨hbl, ⟨cellB, hcB, hoB, hclB⟩, hPc⟩ := hp
  intro T hT X
  subst hb
  obtain ⟨mk, methM, hnamed, hmethM, hstM, habM⟩ := Cond.instanceMethod_spec hin
  obtain ⟨methM', cM, hmethM', -, -, -, -, -, -, hsigM⟩ := Cond.code_spec hnamed hcode
  cases hmethM.symm.trans hmethM'
  obtain ⟨c2, r2, m2, q1, q2, q3, q4, kP, hkP, hkPi⟩ := Cond.selects_spec hse
  cases hclB.symm.trans q1
  cases (State.methodFound?_of_named hnamed hy).symm.trans q2
  cases hnamed.symm.trans q3
  have hsel : selectMethod e.platform s.vm cellB.cls mk = .method mk := by rw [Launch.admits_selectMethod X.admits]; exact q4
  obtain ⟨vm₁, X₁, hst₁⟩ := X.invokevirtual hx ho hl hnamed hmethM hstM hkP hkPi hy (a := b) (cell := cellB) (by rw [hT]; exact hcB) (fun z h => by rw [h] at hoB; cases hoB) hsel hmethM habM hkP hkPi (g := g) hg (argsL := As) (rest := rest) (hn.trans (hlen _ hsigM)) hstack hdg
  obtain ⟨x, t, T', L, XT, hL, e1, hq, hst⟩ := x_invT (bytes := bytes) (maxL := maxL) (ret := ret) hM hbl hrc hrs hfr hlo X₁ (fun a' w hw => hws w hw a' _ X₁.warmed) (fun a' => hws _ hcw a' _ X₁.warmed) (fun a' => word_at X₁.warmed (Or.inl (by first | rfl | simp [Cond.onTables, Cond.keeps, Cond.steady])) hini) (g := { g with stack := rest }) hg (hsize.trans hml.symm) hdg hW (X₁.named hnamed) hf (hPc (T.setVm vm₁) hT X₁.warmed)
  exact ⟨x, (T.setVm vm₁).calling { g with stack := rest } mk (Value.ref b :: As).toArray, t, T', L, hT, X₁.warmed.alike, XT, hL, e1, hq, hst₁ _ fun acts => by rw [doInvoke_state]; exact hst⟩
/-- out of a method that has no table -/
theorem x_leaveT {st0 : List Value} {av : Array Value} {mc ms : Nat} {free F : Addr → Prop} {C : String} {P P' : Heap → Prop} (hr : x_RunT p l e R s m args below meth c H locs cells slots mc ms (F0 m pc ls st0) rest (x_QT C P av) free) (hL : ∀ q ∈ locs, F q.base) (hf : ∀ q, free q → F q) (hout : c.exceptionTable.toList = []) (hlocks : meth.locks = false)
    (hq : ∀ H1 : Heap, P H1 → P' H1) : W p l e R s m args below meth c H locs cells slots (x_MQT below (x_QT C P') args s (cells + mc) (slots + ms) F) (F0 m pc ls st0) := by
  intro T hT X
  obtain ⟨x, st₀, t, T', L, h0, hal, X', hLL, e1, ⟨x', cell, ex, hc, hv, hfc, hP⟩, hst⟩ := hr T hT X
  cases ex
  obtain ⟨hw, hrun, hend, hWm, hsame⟩ := X'.leaveThrown x (g := F0 m pc ls rest) rfl rfl rfl (fun y hy => by rw [hout] at hy; cases hy) (hlocks := hlocks)
  have eh : (T'.setFrames (.throwing x :: below)).heap = t.heap := e1
  refine ⟨_, hst.trans hw, .threw x, hrun, hend, ⟨x, cell, rfl, by rw [eh]; exact hc, hv, by rw [← hal.findClass]; exact hfc, by rw [eh]; exact hq _ hP⟩, locs ++ L, ⟨⟨x, rfl⟩, hWm, hsame⟩, fun q hq => ?_⟩
  rcases List.mem_append.mp hq with h | h
  · exact hL q h
  · exact hf _ (hLL q h)
end XT
/-! the search for a handler -/
section XH
variable {e : Env} {f : JFrame} {a : Addr}
theorem x_row {S : State} {x : ExceptionTableEntry} {t : List ExceptionTableEntry} {k : ClassId} {cell : Cell} {Q : Handler → Pre} {E : CtlPost} {d : Bool} {acts : List Action} (hx : covers x f.pc = true) (h0 : x.catchType ≠ 0) (hl : S.vm.ClassLinks e.platform f.method.cls x.catchType k) (hcell : S.heap[a]? = some cell) (hobj : ∀ z, cell.vm ≠ .statics z) (hk : ∃ z, S.vm.classes[cell.cls]? = some z) (hc : ∃ z, S.vm.classes[k]? = some z) :
    wp (findHandler.go f a (x :: t)) Q E e d acts S ↔ (if S.vm.assignable cell.cls k = true then Q (.found x.handlerPc) d acts (S.setVm (S.vm.noted f.method.cls x.catchType (.cls k))) else wp (findHandler.go f a t) Q E e d acts (S.setVm (S.vm.noted f.method.cls x.catchType (.cls k)))) := by
  have hx' : (decide (x.startPc ≤ f.pc) && decide (f.pc < x.endPc)) = true := hx
  obtain ⟨r1, r2⟩ := (resolveClass_links e.toSetting hl).op (op := VmOp.resolveClass f.method.cls x.catchType) rfl
  have hal : S.vm.Alike (S.vm.noted f.method.cls x.catchType (.cls k)) := (Vm.Alike.refl S.vm).noted _ _ _
  obtain ⟨z1, hz1⟩ := hk
  obtain ⟨z2, hz2⟩ := hc
  obtain ⟨w1, hw1, -⟩ := hal.2.2 _ _ hz1
  obtain ⟨w2, hw2, -⟩ := hal.2.2 _ _ hz2
  have hasg := hal.assignable cell.cls k
  cases hb : S.vm.assignable cell.cls k with
  | true =>
    rw [hb] at hasg
    simp [findHandler.go, hx', h0, r1, r2, hcell, hobj, hw1, hw2, hasg, VmOp.dirties, VmOp.acts]
  | false =>
    rw [hb] at hasg
    simp [findHandler.go, hx', h0, r1, r2, hcell, hobj, hw1, hw2, hasg, VmOp.dirties, VmOp.acts]
/-- the rows ahead name classes that the object is none of; this row's class takes it -/
theorem x_search {s₀ : State} {cell : Cell} {x : ExceptionTableEntry} {rest : List ExceptionTableEntry} {k : ClassId} (hobj : ∀ z, cell.vm ≠ .statics z) (hk0 : ∃ z, s₀.vm.classes[cell.cls]? = some z) (hx : covers x f.pc = true) (h0 : x.catchType ≠ 0) (hl : s₀.vm.ClassLinks e.platform f.method.cls x.catchType k) (hfit : s₀.vm.assignable cell.cls k = true) :
    ∀ (pre : List ExceptionTableEntry) (S : State), s₀.WarmedH S.vm → S.heap[a]? = some cell → (∀ y ∈ pre, covers y f.pc = true ∧ y.catchType ≠ 0 ∧ ∃ z, s₀.vm.ClassLinks e.platform f.method.cls y.catchType z ∧ s₀.vm.assignable cell.cls z = false) →
      ∃ vm', s₀.WarmedH vm' ∧ ∀ (Q : Handler → Pre) (E : CtlPost) (d : Bool) (acts : List Action), wp (findHandler.go f a (pre ++ x :: rest)) Q E e d acts S ↔ Q (.found x.handlerPc) d acts (S.setVm vm') := by
  obtain ⟨z0, hz0⟩ := hk0
  intro pre
  induction pre with
  | nil =>
    intro S hW hcell _
    obtain ⟨z1, hz1, -⟩ := hW.alike.2.2 _ _ hz0
    obtain ⟨dk, _, _, kt, hd, _, _, _, _, hkt, _, hopen⟩ := hl.here
    obtain ⟨z2, hz2, -⟩ := hW.alike.2.2 _ _ hkt
    refine ⟨_, hW.noted hd hopen (State.rightAt_cls hl), fun Q E d acts => ?_⟩
    rw [List.nil_append, x_row hx h0 (hW.classLinks hl) hcell hobj ⟨z1, hz1⟩ ⟨z2, hz2⟩, if_pos (by rw [hW.alike.assignable]; exact hfit)]
  | cons y ys ih =>
    intro S hW hcell hpass
    obtain ⟨z1, hz1, -⟩ := hW.alike.2.2 _ _ hz0
    obtain ⟨hcov, hy0, z, hzl, hno⟩ := hpass y List.mem_cons_self
    obtain ⟨dk, _, _, kt, hd, _, _, _, _, hkt, _, hopen⟩ := hzl.here
    obtain ⟨z2, hz2, -⟩ := hW.alike.2.2 _ _ hkt
    obtain ⟨vm', hW', hq⟩ := ih (S.setVm (S.vm.noted f.method.cls y.catchType (.cls z))) (hW.noted hd hopen (State.rightAt_cls hzl)) hcell (fun w hw => hpass w (List.mem_cons_of_mem _ hw))
    refine ⟨vm', hW', fun Q E d acts => ?_⟩
    rw [List.cons_append, x_row hcov hy0 (hW.classLinks hzl) hcell hobj ⟨z1, hz1⟩ ⟨z2, hz2⟩, if_neg (by rw [hW.alike.assignable, hno]; decide)]
    exact hq Q E d acts
theorem x_into {tb : Tables} {s target : State} {g : JFrame} {c : Code} {below : List Frame} {pc : Nat} {vm' : Vm} (h : At s g.method c below)
    (hfind : ∀ (Q : Handler → Pre) (E : CtlPost) (d : Bool) (acts : List Action), wp (findHandler g a) Q E e d acts ((s.setTop g).pushFrame (.throwing a)) ↔ Q (.found pc) d acts (((s.setTop g).pushFrame (.throwing a)).setVm vm'))
    (hrest : Steps tb e below ((s.setVm vm').setTop { g with pc := pc, stack := [.ref a] }) target) : Steps tb e below ((s.setTop g).pushFrame (.throwing a)) target := by
  obtain ⟨hgo, hw⟩ := h.throwing a
  obtain ⟨g0, hg0⟩ := Option.isSome_iff_exists.mp h.top
  obtain ⟨r, hr⟩ := State.topJava?_eq_some.mp hg0
  refine Steps.head hgo hw ?_
  have hstep : (stepThrowing e ((s.setTop g).pushFrame (.throwing a)) a (.java g :: s.frames.tail)).1 = (((s.setTop g).pushFrame (.throwing a)).setVm vm').setFrames (.java { g with pc := pc, stack := [.ref a] } :: s.frames.tail) := by
    simp only [stepThrowing, searchFrame, vmDo]
    generalize hres : Sem.go _ e false [] ((s.setTop g).pushFrame (.throwing a)) = res
    obtain ⟨as, rfl, -⟩ := Sem.eq_ok_of hres (a := Handler.found pc) (s' := ((s.setTop g).pushFrame (.throwing a)).setVm vm') (acts' := []) (by simp [hfind _ _ _ _])
    rfl
  rw [stepThread_throwing (frames_entered h.top _), hstep]
  have e1 : (((s.setTop g).pushFrame (.throwing a)).setVm vm').setFrames (.java { g with pc := pc, stack := [.ref a] } :: s.frames.tail) = (s.setVm vm').setTop { g with pc := pc, stack := [.ref a] } := by
    have hr' : (s.setVm vm').frames = .java g0 :: r := hr
    rw [State.setTop_of_frames _ hr', State.pushFrame, State.setTop_of_frames _ hr, hr]
    have e2 : ∀ (u : State) (A B : List Frame), ((u.setFrames A).setVm vm').setFrames B = (u.setVm vm').setFrames B := fun u A B => by
      have e3 : (u.setFrames A).setVm vm' = (u.setVm vm').setFrames A := rfl
      rw [e3, State.setFrames_setFrames]
    rw [State.setFrames_setFrames, e2]
    rfl
  rw [e1]
  exact hrest
end XH
section XC
variable {p : Program} {l : Launch} {e : Env} {R : Room} {s : State} {m : MethodId} {args : Array Value} {below : List Frame} {meth : Method} {c : Code} {H : Heap} {locs : List Loc} {cells slots : Nat} {Q : State → Prop}
variable {cc : ByteArray} {pc : Nat} {ls : Array Slot} {rest : List Value}
/-- a call's exception, of the class C, caught by the row x behind the rows 'pre' -/
theorem x_catch {st0 : List Value} {av : Array Value} {mc ms : Nat} {free F : Addr → Prop} {C own name : String} {P : Heap → Prop} (hr : x_RunT p l e R s m args below meth c H locs cells slots mc ms (F0 m pc ls st0) rest (x_QT C P av) free) (hL : ∀ q ∈ locs, F q.base) (hf : ∀ q, free q → F q)
    (hown : s.vm.findClass own = some m.cls) {pre rest' : List ExceptionTableEntry} {x : ExceptionTableEntry} (htab : c.exceptionTable.toList = pre ++ x :: rest') (hx : covers x pc = true) (h0 : x.catchType ≠ 0) (hlink : (Cond.classLink own x.catchType name).before args s = true) (hcast : (Cond.castable C name).before args s = true)
    (hpre : ∀ y ∈ pre, covers y pc = true ∧ y.catchType ≠ 0 ∧ ∃ nm : String, (Cond.classLink own y.catchType nm).before args s = true ∧ va_Nc C nm s)
    (kk : ∀ (q : Nat) (H1 : Heap) (locs1 : List Loc), P H1 → (∀ q ∈ locs1, F q.base) → W p l e R s m args below meth c H1 locs1 (cells + mc) (slots + ms) Q (F0 m x.handlerPc ls [.ref q])) : W p l e R s m args below meth c H locs cells slots Q (F0 m pc ls st0) := by
  intro T hT X
  obtain ⟨q, st₀, t, T', L, h00, hal, X', hLL, e1, ⟨q', cell, ex, hc, hv, hfc, hP⟩, hst⟩ := hr T hT X
  cases ex
  have hpl : e.platform.magicAccessors = ({} : Platform).magicAccessors := by rw [X.admits.platform]
  have hfc' : s.vm.findClass C = some cell.cls := by rw [← hal.findClass]; exact hfc
  obtain ⟨k, hk, hkl⟩ := Cond.classLink_spec hown hlink e.platform hpl
  obtain ⟨c3, t3, w1, w2, w3⟩ := Cond.castable_spec hcast
  cases hfc'.symm.trans w1
  cases hk.symm.trans w2
  obtain ⟨vm', hW', hgo⟩ := x_search (e := e) (f := F0 m pc ls rest) (a := q) (s₀ := s) (cell := cell) (x := x) (rest := rest') (k := k) (fun z hz => by rw [hv] at hz; cases hz) (Vm.classAt_of_findClass hfc') hx h0 hkl w3 pre ((T'.setTop (F0 m pc ls rest)).pushFrame (.throwing q)) X'.warmed (by rw [Stand.throwing_heap, e1]; exact hc) (fun y hy => by
    obtain ⟨y1, y2, nm, y3, c5, t5, y4, y5, y6⟩ := hpre y hy
    obtain ⟨z, hz, hzl⟩ := Cond.classLink_spec hown y3 e.platform hpl
    cases hfc'.symm.trans y4
    cases hz.symm.trans y5
    exact ⟨y1, y2, _, hzl, y6⟩)
  have hfind : ∀ (Q : Handler → Pre) (E : CtlPost) (d : Bool) (acts : List Action), wp (findHandler (F0 m pc ls rest) q) Q E e d acts ((T'.setTop (F0 m pc ls rest)).pushFrame (.throwing q)) ↔ Q (.found x.handlerPc) d acts (((T'.setTop (F0 m pc ls rest)).pushFrame (.throwing q)).setVm vm') := fun Q E d acts => by
    rw [W.findHandler_eq (meth := meth) (code := c) (by rw [Stand.throwing_vm]; exact X'.method') X'.code, htab]
    exact hgo Q E d acts
  obtain ⟨t2, a1, b1⟩ := kk q (T'.setVm vm').heap (locs ++ L) (by show P T'.heap; rw [e1]; exact hP) (fun z hz => by
      rcases List.mem_append.mp hz with h | h
      · exact hL z h
      · exact hf _ (hLL z h)) (T'.setVm vm') rfl (X'.noted hW')
  exact ⟨t2, hst.trans (x_into (g := F0 m pc ls rest) X'.here hfind a1), b1⟩
end XC
