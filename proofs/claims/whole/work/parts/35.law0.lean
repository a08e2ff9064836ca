/-! THE LAW'S OWN CALLS that catch. (The section VXS and vx_table are pasted from the claim's printed names.) -/
section VXS
variable {p : Program} {l : Launch} {e : Env} {R : Room} {s : State} {m : MethodId} {args : Array Value} {below : List Frame} {meth : Method} {c : Code} {T : State} {H : Heap} {locs : List Loc} {cells slots : Nat}
abbrev vx_CSW (R : Room) (s : State) (args : Array Value) (own : String) (index : Nat) (y : MethodName) (bytes : ByteArray) (maxL : Nat) (ret : Option FieldType) (hh : List (Nat × Nat × Nat × Nat)) (ws : List Cond) (rm : Room) (mc ms n : Nat) : Prop :=
  (rm.cells = mc ∧ rm.slots = ms ∧ rm.frames + 1 ≤ R.frames ∧ 8 + (maxL + 11) + rm.locals ≤ R.locals ∧ (∀ w ∈ ws, ∀ (a' : Array Value) (U : State), s.WarmedH U.vm → w.before a' U = true) ∧ Cond.codeWith y bytes maxL ret hh ∈ ws) ∧
  (Cond.codeWith y bytes maxL ret hh).before args s = true ∧ (Cond.initialized y.cls).before args s = true ∧ (y.cls ≠ "java/lang/invoke/MethodHandle" ∧ y.cls ≠ "java/lang/invoke/VarHandle") ∧
  (∀ sig, parseMethodDescriptor y.desc = some sig → n = sig.parameters.length) ∧ (Cond.methodLink own index y).before args s = true ∧ (Cond.static y).before args s = true
theorem vx_cwSW {own : String} {index maxL mc ms : Nat} {y : MethodName} {bytes : ByteArray} {ret : Option FieldType} {hh : List (Nat × Nat × Nat × Nat)} {Ts ws ws' : List Cond} {rm : Room} (n : Nat) (ht : ∀ w ∈ Ts, w.before args s = true) (hT : GoodIn Ts (va_wsS own index y ws)) (hw : ws = Cond.codeWith y bytes maxL ret hh :: ws') (hrc : rm.cells = mc) (hrs : rm.slots = ms)
    (hd : y.cls ≠ "java/lang/invoke/MethodHandle" ∧ y.cls ≠ "java/lang/invoke/VarHandle" ∧ (parseMethodDescriptor y.desc).map (fun d => d.parameters.length) = some n) (hR : rm.frames + 1 ≤ R.frames ∧ 8 + (maxL + 11) + rm.locals ≤ R.locals) :
    vx_CSW R s args own index y bytes maxL ret hh ws rm mc ms n := by
  have ok : ∀ w ∈ va_wsS own index y ws, w.before args s = true := fun w h => ht w (hT w h).1
  have hG : GoodIn Ts ws := fun w h => hT w (by unfold va_wsS; exact List.mem_append_right _ h)
  have hc : Cond.codeWith y bytes maxL ret hh ∈ ws := by rw [hw]; exact List.mem_cons_self
  refine ⟨⟨hrc, hrs, hR.1, hR.2, pay_in ht hG, hc⟩, ht _ (hG _ hc).1, ok _ (by simp [va_wsS]), ⟨hd.1, hd.2.1⟩, fun sig h => ?_, ok _ (by simp [va_wsS]), ok _ (by simp [va_wsS])⟩
  have h2 := hd.2.2
  rw [h] at h2
  exact (Option.some.inj h2).symm
theorem vx_callSW (X : Stand p l e R s m args below meth c T locs cells slots) (hexec : p.tables.exec = Jvm.exec) {own : String} {index : Nat} {y : MethodName} {bytes : ByteArray} {maxL : Nat} {ret : Option FieldType} {hh : List (Nat × Nat × Nat × Nat)}
    (hown : s.vm.findClass own = some m.cls) (hlink : (Cond.methodLink own index y).before args s = true) (hstat : (Cond.static y).before args s = true) (hinit : (Cond.initialized y.cls).before args s = true)
    (hcode : (Cond.codeWith y bytes maxL ret hh).before args s = true) (hy : y.cls ≠ "java/lang/invoke/MethodHandle" ∧ y.cls ≠ "java/lang/invoke/VarHandle")
    {W9 : Nat} {Pre : Pt → Array Value → Prop} {Post : Pt → Array Value → Option Value → Pt → Prop} (hK : Back l R p e below s args y 3 W9 Pre Post)
    {g : JFrame} (hg : g.method = m) (hsize : g.locals.size = c.maxLocals) {argsL rest : List Value} (hlen : ∀ sig, parseMethodDescriptor y.desc = some sig → argsL.length = sig.parameters.length)
    (hstack : g.stack = argsL.reverse ++ rest) (hW : 2 * g.monitorRoom + (rest.map fun v => v.category).sum ≤ W9) (hdg : decode c.code g.pc = .ok (.invokestatic index, 3))
    (hpre : ∀ vm₁, s.WarmedH vm₁ → Pre ⟨T.setVm vm₁, locs, cells, slots⟩ argsL.toArray) :
    ∃ (v : Option Value) (vm₁ : Vm) (B : Pt), s.WarmedH vm₁ ∧ Stand p l e R s m args below meth c B.U B.locs B.cells B.slots ∧ Post ⟨T.setVm vm₁, locs, cells, slots⟩ argsL.toArray v B ∧
      ∀ target, Steps p.tables e below (B.U.setTop { g with pc := g.pc + 3, stack := v.toList ++ rest }) target → Steps p.tables e below (T.setTop g) target := by
  obtain ⟨mk, methM, cM, hnamed, hmethM, -, -, -, -, -, -, hsigM⟩ := Cond.codeWith_spec hcode
  have hstatic : methM.isStatic = true := Cond.static_spec hnamed hmethM hstat
  obtain ⟨kP, hkP, -⟩ := className_of_methodNamed hnamed
  have hinitP : kP.init = .initialized := Cond.initialized_spec (findClass_of_methodNamed hnamed) hkP hinit
  obtain ⟨vm₁, X₁, hstep₁⟩ := X.invokestatic hexec hown hlink hnamed hmethM hstatic hkP hinitP hy (g := g) hg (argsL := argsL) (rest := rest) (hlen _ hsigM) hstack hdg
  obtain ⟨v, B, X', hpost, hsteps⟩ := hK m meth c ⟨T.setVm vm₁, locs, cells, slots⟩ { g with stack := rest } (.invokestatic index) mk argsL.toArray X₁ hg hsize hdg hW (X₁.named hnamed) (hpre vm₁ X₁.warmed)
  exact ⟨v, vm₁, B, X₁.warmed, X', hpost, fun target h => hstep₁ _ fun acts => by rw [doInvoke_state]; exact hsteps.trans h⟩
theorem vx_runSW {y : MethodName} {bytes cc : ByteArray} {maxL nL mc ms n index : Nat} {ret : Option FieldType} {hh : List (Nat × Nat × Nat × Nat)} {ws : List Cond} {rm : Room} {Pc : Array Value → State → Prop} {Qc : Array Value → State → Outcome → State → Prop} {free : Addr → Prop} {Ts : List Cond} {own : String} {As rest : List Value} {g : JFrame}
    (S : CallFix p m c cc nL s args Ts own) (hM : Met l y ws rm Pc Qc mc ms free) (cw : vx_CSW R s args own index y bytes maxL ret hh ws rm mc ms n) (hp : PreS s H Pc As)
    (hg : g.method = m) (hn : As.length = n) (hsize : g.locals.size = nL) (hstack : g.stack = As.reverse ++ rest) (hW : 2 * g.monitorRoom + (rest.map fun v => v.category).sum ≤ 8) (hdg : decode cc g.pc = .ok (.invokestatic index, 3)) (hf : cells + mc ≤ R.cells ∧ slots + ms ≤ R.slots) :
    va_Run p l e R s m args below meth c H locs cells slots mc ms g rest (Qc As.toArray) (free) := by
  obtain ⟨⟨hrc, hrs, hfr, hlo, hws, hcw⟩, hcode, hini, hy, hlen, hl, hstt⟩ := cw
  have hK : Back l R p e below s args y 3 8 (PreOf R mc ms Pc) (PostOf Qc mc ms free) := va_backW (hh := hh) (bytes := bytes) (maxL := maxL) (ret := ret) hM hp.1 hrc hrs hfr hlo hws hcw (fun a' U hW => word_at hW (Or.inl (by first | rfl | simp [Cond.onTables, Cond.keeps, Cond.steady])) hini)
  obtain ⟨hx, hb, hml, ho, -⟩ := S
  intro T hT X
  obtain ⟨v, vm₁, ⟨U', l2, c2, s2⟩, hW₁, X', ⟨g', mk, t, L, e1, e2, hq, h1, hL, h2, h3⟩, st⟩ := vx_callSW X hx (hh := hh) (bytes := bytes) (maxL := maxL) (ret := ret) ho hl hstt hini hcode hy hK hg (hsize.trans hml.symm) (argsL := As) (rest := rest) (fun sig h => hn.trans (hlen sig h)) hstack hW (by rw [hb]; exact hdg)
    (fun vm₁ hW₁ => ⟨hf.1, hf.2, hp.2 (T.setVm vm₁) hT hW₁⟩)
  dsimp only [Pt.U, Pt.locs, Pt.cells, Pt.slots] at X' e1 e2 h1 h2 h3 st
  subst h1; subst h2; subst h3
  exact ⟨v, (T.setVm vm₁).calling g' mk As.toArray, t, U', L, hT, X', hL, e1, e2, hq, st⟩
end VXS
section VXB
variable {l : Launch}
theorem vx_table {p : Program} {x y : MethodName} {S : Spec} {cc bytes : ByteArray} {maxL maxL' : Nat} {ret ret' : Option FieldType} {e : Env} {s s₁ : State} {m : MethodId} {args : Array Value} {below : List Frame} {meth : Method} {c : Code} {hh : List (Nat × Nat × Nat × Nat)}
    (B : BodyLoose p l y S cc maxL ret e s m args below meth c s₁) (h : (Cond.codeWith y bytes maxL' ret' hh).before args s = true) : c.exceptionTable.toList = tableOf hh := by
  obtain ⟨m9, meth9, c9, hn9, h1, h2, -, -, h6, -⟩ := Cond.codeWith_spec h
  cases Option.some.inj (hn9.symm.trans B.named)
  cases Option.some.inj (h1.symm.trans B.method)
  cases Option.some.inj (h2.symm.trans (Stand.of_body B).code)
  rw [← h6, table_eq]
end VXB
abbrev x_IOB : String := "java/lang/IndexOutOfBoundsException"
abbrev x_IAE : String := "java/lang/IllegalArgumentException"
abbrev x_ISE : String := "java/lang/IllegalStateException"
def x_N (U : State) : Prop := va_Nc x_ISE x_IOB U ∧ va_Nc x_IAE x_IOB U ∧ va_Nc x_ISE x_IAE U
theorem x_N.moved {u U : State} (h : x_N u) (hv : u.vm.Alike U.vm) : x_N U := ⟨va_Nc.moved hv h.1, va_Nc.moved hv h.2.1, va_Nc.moved hv h.2.2⟩
def x_PcL (D : va_G) (A : Nat → ClassId) (M : Nat → Prop) (av : List Value) (H0 : Heap) : Array Value → State → Prop := va_Pc av (fun U => U.heap = H0 ∧ va_K D x_cl (x_tys A) U ∧ x_E U ∧ x_T M U H0 ∧ x_N U)
theorem x_blindL {D : va_G} {A : Nat → ClassId} {M : Nat → Prop} {av : List Value} {H0 : Heap} : FrameBlind (x_PcL D A M av H0) := fun a U g mk q => by
  obtain ⟨q0, q1, q2, q3, q4, q5⟩ := q
  exact ⟨q0, q1, va_K.moved (u := U) (U := U.calling g mk a) (Vm.Alike.refl U.vm) q2, x_E.same (s := U) (U := U.calling g mk a) rfl q3, x_T.moved (u := U) (U := U.calling g mk a) q4 (Vm.Alike.refl U.vm), x_N.moved (u := U) (U := U.calling g mk a) q5 (Vm.Alike.refl U.vm)⟩
theorem x_preSL {D : va_G} {A : Nat → ClassId} {M : Nat → Prop} {As : List Value} {H : Heap} {s : State} (hK : va_K D x_cl (x_tys A) s) (hN : x_E s) (hT : x_T M s H) (hNc : x_N s) : PreS s H (x_PcL D A M As H) As :=
  ⟨x_blindL, fun U hU hW => ⟨rfl, hU, va_K.moved hW.alike hK, hN.warm hW, hT.moved hW.alike, hNc.moved hW.alike⟩⟩
theorem g_D.zone {D : va_G} {A : Nat → ClassId} {a z : Nat} {S : g_S} {H H1 : Heap} (h : g_D D A a z S H) (hz : H1.size = H.size) (hq : ∀ q : Nat, ¬ (z + 12 ≤ q ∧ q < z + 29) → H1[q]? = H[q]?) : g_D D A a z S H1 := by
  obtain ⟨pa, as, bs, cs, ds, h1, h2, h3, ⟨h4, h4s⟩, ⟨h5, h5s⟩, ⟨h6, h6s⟩, ⟨h7, h7s⟩, h8, h9⟩ := h
  have hk : g_K (fun q => z + 12 ≤ q ∧ q < z + 29) H H1 := ⟨Nat.le_of_eq hz.symm, fun q _ hM => hq q hM⟩
  have hs : ∀ q, (fun q => z + 12 ≤ q ∧ q < z + 29) q → g_Mx a z q := fun q h => Or.inr (Or.inr h)
  exact ⟨pa, as, bs, cs, ds, h1.kept (hq _ (by omega)), h2.kept (hq _ (by omega)) (hq _ (by omega)), h3.kept hk hs, ⟨h4.kept (hq _ (by omega)) (hq _ (by omega)), h4s.kept hk hs⟩, ⟨h5.kept (hq _ (by omega)) (hq _ (by omega)), h5s.kept hk hs⟩, ⟨h6.kept (hq _ (by omega)) (hq _ (by omega)), h6s.kept hk hs⟩, ⟨h7.kept (hq _ (by omega)) (hq _ (by omega)), h7s.kept hk hs⟩, h8, by rw [hz]; exact h9⟩
set_option maxHeartbeats 4000000 in
set_option maxRecDepth 100000 in
theorem c_La_path (l : Launch) {D : va_G} {A : Nat → ClassId} {H0 : Heap} {a z : Nat} {S : g_S} (hd : g_D D A a z S H0) {fo : Nat → Int64} (hout : va_at D x_cl (z + 28, .inl (A 4, 1, .inr (.inl fo))) H0) (hlen : S.1.length ≤ 100) : Met l y_La_path w_La_path { frames := 4, cells := 2, slots := 401, locals := 123 } (x_PcL D A (g_Mx a z) [.ref a, .ref (z + 28)] H0) (x_Q (some (.int 0)) (fun H1 => g_D D A a z ([], S.1, S.2.2.1, S.2.2.2.1, S.2.2.2.2.1, S.2.2.2.2.2.1, S.2.2.2.2.2.2) H1 ∧ (∃ fo : Nat → Int64, va_at D x_cl (z + 28, .inl (A 4, 1, .inr (.inl fo))) H1 ∧ fo 0 = (nI S.1.length).toInt64) ∧ g_K (fun q => g_M a z q ∨ q = z + 28) H0 H1)) 2 401 (x_fr (g_Mx a z) H0) := by
  refine va_MetW (cc := method_3_code) (maxL := 3) (ret := (some .int)) (hh := [(0, 8, 11, 13)]) (by decide) rfl ?_
  intro p e s m args below meth c s₁ B hml hv
  obtain ⟨rfl, hH, hK, hN, hT, hNc⟩ := hv
  obtain ⟨hx, hb, hr, htb, hown, hlocks⟩ := x_start (wd := Cond.codeWith y_La_path method_3_code 3 (some .int) [(0, 8, 11, 13)]) B
  have htab := vx_table (x := y_La_path) B (atoms_spec (ws := w_La_path) B.pre _ List.mem_cons_self)
  have hl := lv_entry ([.ref a, .ref (z + 28)]) (n := 3) (Nat.le_of_ble_eq_true rfl)
  rw [lg_entry_eq]
  generalize (lg_sl ([.ref a, .ref (z + 28)]) ++ List.replicate (3 - (lg_sl ([.ref a, .ref (z + 28)])).length) Slot.unset).toArray = ls at hl ⊢
  have hl : lv_has ls 3 [(0, .ref a), (1, .ref (z + 28))] := hl
  rw [hH]
  have hL : ∀ q ∈ ([] : List Loc), (x_fr (g_Mx a z) H0) q.base := fun q hq => by cases hq
  obtain ⟨pa, as, bs, cs, ds, h1, h2, h3, ⟨h4, h4s⟩, ⟨h5, h5s⟩, ⟨h6, h6s⟩, ⟨h7, h7s⟩, h8, h9⟩ := id hd
  refine lv_aload_n hx hb d_La_path_0 rfl (lv_at hl 1 rfl) ?_
  refine lv_iconst (v := 0) hx hb d_La_path_1 (by decide) ?_
  refine lv_aload_n hx hb d_La_path_2 rfl (lv_at hl 0 rfl) ?_
  refine x_call (F := x_fr (g_Mx a z) H0) (va_runV (As := []) (rest := [.int 0, .ref (z + 28)]) ⟨hx, hb, hml, hown, htb⟩ (c_Bd_path l hd hlen) (x_cV 0 htb mw_228 mw_1 mw_231 mw_229 mw_230 rfl rfl (by decide +kernel) ⟨Nat.le_of_ble_eq_true rfl, Nat.le_of_ble_eq_true rfl⟩) (x_preV hK hN h1 rfl) rfl rfl hl.1 rfl (lv_room (Nat.le_of_ble_eq_true rfl)) d_La_path_3 ⟨Nat.le_of_ble_eq_true rfl, Nat.le_of_ble_eq_true rfl⟩) hL (fun q hq => hq) (fun H1 locs hP hL => ?_)
  refine W.eq (g2 := F0 m 6 ls [.int (nI S.1.length), .int 0, .ref (z + 28)]) rfl ?_
  obtain ⟨q1, q2⟩ := hP
  have hout1 := q2.at hout (fun e => e.elim (fun e => by omega) (fun e => by omega))
  refine lv_i2l (v := (nI S.1.length).toInt64) hx hb d_La_path_6 rfl ?_
  refine x_last (F := x_fr (g_Mx a z) H0) hx hb hK 4 hout1 hL (Or.inl (Or.inr (Or.inr ⟨by omega, by omega⟩))) rfl (i := 0) (vp_in_nI (n := 0) (by decide) (by decide)) d_La_path_7 (fun H2 locs k1 k2 hL => ?_)
  refine lv_goto (tgt := 14) hx hb d_La_path_8 (by decide) ?_
  refine lv_iconst (v := 0) hx hb d_La_path_14 (by decide) ?_
  exact x_iret hx hb hr hlocks rfl ⟨q1.zone k2.1 (fun q hq => k2.2 q (by omega)), ⟨_, k1, rfl⟩, Nat.le_trans q2.1 (Nat.le_of_eq k2.1.symm), fun q hq hM => (k2.2 q (fun e => hM (Or.inr e))).trans (q2.2 q hq (fun e => hM (Or.inl e)))⟩ hL (Nat.le_refl _) (Nat.le_refl _) d_La_path_15
set_option maxHeartbeats 4000000 in
set_option maxRecDepth 100000 in
theorem c_La_pathT (l : Launch) (hlt0 : l.stackTraces = false) {D : va_G} {A : Nat → ClassId} {H0 : Heap} {a z : Nat} {S : g_S} (hd : g_D D A a z S H0) {o : Nat} (hlen : 100 < S.1.length) : Met l y_La_path w_La_path { frames := 7, cells := 1, slots := 6, locals := 123 } (x_PcL D A (g_Mx a z) [.ref a, .ref o] H0) (x_Q (some (.int 1)) (fun H1 => H0.size ≤ H1.size ∧ ∀ q : Nat, q < H0.size → H1[q]? = H0[q]?)) 1 6 (x_fr (g_Mx a z) H0) := by
  refine va_MetW (cc := method_3_code) (maxL := 3) (ret := (some .int)) (hh := [(0, 8, 11, 13)]) (by decide) rfl ?_
  intro p e s m args below meth c s₁ B hml hv
  obtain ⟨rfl, hH, hK, hN, hT, hNc⟩ := hv
  obtain ⟨hx, hb, hr, htb, hown, hlocks⟩ := x_start (wd := Cond.codeWith y_La_path method_3_code 3 (some .int) [(0, 8, 11, 13)]) B
  have htab := vx_table (x := y_La_path) B (atoms_spec (ws := w_La_path) B.pre _ List.mem_cons_self)
  have hl := lv_entry ([.ref a, .ref o]) (n := 3) (Nat.le_of_ble_eq_true rfl)
  rw [lg_entry_eq]
  generalize (lg_sl ([.ref a, .ref o]) ++ List.replicate (3 - (lg_sl ([.ref a, .ref o])).length) Slot.unset).toArray = ls at hl ⊢
  have hl : lv_has ls 3 [(0, .ref a), (1, .ref o)] := hl
  rw [hH]
  have hL : ∀ q ∈ ([] : List Loc), (x_fr (g_Mx a z) H0) q.base := fun q hq => by cases hq
  obtain ⟨pa, as, bs, cs, ds, h1, h2, h3, ⟨h4, h4s⟩, ⟨h5, h5s⟩, ⟨h6, h6s⟩, ⟨h7, h7s⟩, h8, h9⟩ := id hd
  refine lv_aload_n hx hb d_La_path_0 rfl (lv_at hl 1 rfl) ?_
  refine lv_iconst (v := 0) hx hb d_La_path_1 (by decide) ?_
  refine lv_aload_n hx hb d_La_path_2 rfl (lv_at hl 0 rfl) ?_
  refine x_catch (F := x_fr (g_Mx a z) H0) (own := "BreakingDiskLaw") (name := "java/lang/IllegalArgumentException") (pre := []) (x := ⟨0, 8, 11, 13⟩) (rest' := []) (x_runVT (As := []) (rest := [.int 0, .ref o]) ⟨hx, hb, hml, hown, htb⟩ (c_Bd_pathT l hlt0 hd hlen) (x_cV 0 htb mw_228 mw_1 mw_231 mw_229 mw_230 rfl rfl (by decide +kernel) ⟨Nat.le_of_ble_eq_true rfl, Nat.le_of_ble_eq_true rfl⟩) (x_preVT hK hN hT h1 rfl) rfl rfl hl.1 rfl (lv_room (Nat.le_of_ble_eq_true rfl)) d_La_path_3 ⟨Nat.le_of_ble_eq_true rfl, Nat.le_of_ble_eq_true rfl⟩) hL (fun q hq => Or.inr hq) hown htab rfl (by decide) (htb _ mw_227) (va_Nw.use rfl (hN.1 _ nf_234)) (fun y hy => by cases hy) (fun q9 H1 locs hP hL => ?_)
  show W _ _ _ _ _ _ _ _ _ _ _ _ _ _ _ (F0 m 11 ls [.ref q9])
  refine lv_astore_n (lv' := [(2, .ref q9), (0, .ref a), (1, .ref o)]) hx hb d_La_path_11 rfl hl (by decide) rfl (fun ls hl => ?_)
  refine lv_iconst (v := 1) hx hb d_La_path_12 (by decide) ?_
  exact x_iret hx hb hr hlocks rfl hP hL (Nat.le_refl _) (Nat.le_refl _) d_La_path_13
set_option maxHeartbeats 4000000 in
set_option maxRecDepth 100000 in
theorem c_La_breakOff (l : Launch) {D : va_G} {A : Nat → ClassId} {H0 : Heap} {a z : Nat} {S : g_S} (hd : g_D D A a z S H0) {fo : Nat → Int64} (hout : va_at D x_cl (z + 28, .inl (A 4, 1, .inr (.inl fo))) H0) {n : Int32} (hn : ¬ n < 0) : Met l y_La_breakOff w_La_breakOff { frames := 7, cells := 0, slots := 0, locals := 157 } (x_PcL D A (g_Mx a z) [.ref a, .int n, .ref (z + 28)] H0) (x_Q (some (.int 0)) (fun H1 => g_D D A a z (S.1, S.2.1, g_rep S.2.2.2.1 (S.2.2.2.2.2.1.take (min n.toNatClampNeg S.2.2.2.2.2.1.length)), g_rep S.2.2.2.1 (S.2.2.2.2.2.1.take (min n.toNatClampNeg S.2.2.2.2.2.1.length)), S.2.2.2.2.1, [], S.2.2.2.2.2.2) H1 ∧ (∃ fo : Nat → Int64, va_at D x_cl (z + 28, .inl (A 4, 1, .inr (.inl fo))) H1 ∧ fo 0 = (nI (min n.toNatClampNeg S.2.2.2.2.2.1.length)).toInt64) ∧ g_K (fun q => g_M a z q ∨ q = z + 28) H0 H1)) 0 0 (x_fr (g_Mx a z) H0) := by
  refine va_MetW (cc := method_7_code) (maxL := 4) (ret := (some .int)) (hh := [(0, 9, 12, 13)]) (by decide) rfl ?_
  intro p e s m args below meth c s₁ B hml hv
  obtain ⟨rfl, hH, hK, hN, hT, hNc⟩ := hv
  obtain ⟨hx, hb, hr, htb, hown, hlocks⟩ := x_start (wd := Cond.codeWith y_La_breakOff method_7_code 4 (some .int) [(0, 9, 12, 13)]) B
  have htab := vx_table (x := y_La_breakOff) B (atoms_spec (ws := w_La_breakOff) B.pre _ List.mem_cons_self)
  have hl := lv_entry ([.ref a, .int n, .ref (z + 28)]) (n := 4) (Nat.le_of_ble_eq_true rfl)
  rw [lg_entry_eq]
  generalize (lg_sl ([.ref a, .int n, .ref (z + 28)]) ++ List.replicate (4 - (lg_sl ([.ref a, .int n, .ref (z + 28)])).length) Slot.unset).toArray = ls at hl ⊢
  have hl : lv_has ls 4 [(0, .ref a), (1, .int n), (2, .ref (z + 28))] := hl
  rw [hH]
  have hL : ∀ q ∈ ([] : List Loc), (x_fr (g_Mx a z) H0) q.base := fun q hq => by cases hq
  obtain ⟨pa, as, bs, cs, ds, h1, h2, h3, ⟨h4, h4s⟩, ⟨h5, h5s⟩, ⟨h6, h6s⟩, ⟨h7, h7s⟩, h8, h9⟩ := id hd
  refine lv_aload_n hx hb d_La_breakOff_0 rfl (lv_at hl 2 rfl) ?_
  refine lv_iconst (v := 0) hx hb d_La_breakOff_1 (by decide) ?_
  refine lv_aload_n hx hb d_La_breakOff_2 rfl (lv_at hl 0 rfl) ?_
  refine lv_iload_n hx hb d_La_breakOff_3 rfl (lv_at hl 1 rfl) ?_
  refine x_call (F := x_fr (g_Mx a z) H0) (va_runV (As := [.int n]) (rest := [.int 0, .ref (z + 28)]) ⟨hx, hb, hml, hown, htb⟩ (c_Bd_breakOff l hd hn) (x_cV 1 htb mw_444 mw_1 mw_447 mw_445 mw_446 rfl rfl (by decide +kernel) ⟨Nat.le_of_ble_eq_true rfl, Nat.le_of_ble_eq_true rfl⟩) (x_preV hK hN h1 rfl) rfl rfl hl.1 rfl (lv_room (Nat.le_of_ble_eq_true rfl)) d_La_breakOff_4 ⟨Nat.le_of_ble_eq_true rfl, Nat.le_of_ble_eq_true rfl⟩) hL (fun q hq => hq) (fun H1 locs hP hL => ?_)
  refine W.eq (g2 := F0 m 7 ls [.int (nI (min n.toNatClampNeg S.2.2.2.2.2.1.length)), .int 0, .ref (z + 28)]) rfl ?_
  obtain ⟨q1, q2⟩ := hP
  have hout1 := q2.at hout (fun e => e.elim (fun e => by omega) (fun e => by omega))
  refine lv_i2l (v := (nI (min n.toNatClampNeg S.2.2.2.2.2.1.length)).toInt64) hx hb d_La_breakOff_7 rfl ?_
  refine x_last (F := x_fr (g_Mx a z) H0) hx hb hK 4 hout1 hL (Or.inl (Or.inr (Or.inr ⟨by omega, by omega⟩))) rfl (i := 0) (vp_in_nI (n := 0) (by decide) (by decide)) d_La_breakOff_8 (fun H2 locs k1 k2 hL => ?_)
  refine lv_goto (tgt := 15) hx hb d_La_breakOff_9 (by decide) ?_
  refine lv_iconst (v := 0) hx hb d_La_breakOff_15 (by decide) ?_
  exact x_iret hx hb hr hlocks rfl ⟨q1.zone k2.1 (fun q hq => k2.2 q (by omega)), ⟨_, k1, rfl⟩, Nat.le_trans q2.1 (Nat.le_of_eq k2.1.symm), fun q hq hM => (k2.2 q (fun e => hM (Or.inr e))).trans (q2.2 q hq (fun e => hM (Or.inl e)))⟩ hL (Nat.le_refl _) (Nat.le_refl _) d_La_breakOff_16
set_option maxHeartbeats 4000000 in
set_option maxRecDepth 100000 in
theorem c_La_breakOffT (l : Launch) (hlt0 : l.stackTraces = false) {D : va_G} {A : Nat → ClassId} {H0 : Heap} {a z : Nat} {S : g_S} (hd : g_D D A a z S H0) {n : Int32} {o : Nat} (hn : n < 0) : Met l y_La_breakOff w_La_breakOff { frames := 7, cells := 1, slots := 6, locals := 112 } (x_PcL D A (g_Mx a z) [.ref a, .int n, .ref o] H0) (x_Q (some (.int 1)) (fun H1 => H0.size ≤ H1.size ∧ ∀ q : Nat, q < H0.size → H1[q]? = H0[q]?)) 1 6 (x_fr (g_Mx a z) H0) := by
  refine va_MetW (cc := method_7_code) (maxL := 4) (ret := (some .int)) (hh := [(0, 9, 12, 13)]) (by decide) rfl ?_
  intro p e s m args below meth c s₁ B hml hv
  obtain ⟨rfl, hH, hK, hN, hT, hNc⟩ := hv
  obtain ⟨hx, hb, hr, htb, hown, hlocks⟩ := x_start (wd := Cond.codeWith y_La_breakOff method_7_code 4 (some .int) [(0, 9, 12, 13)]) B
  have htab := vx_table (x := y_La_breakOff) B (atoms_spec (ws := w_La_breakOff) B.pre _ List.mem_cons_self)
  have hl := lv_entry ([.ref a, .int n, .ref o]) (n := 4) (Nat.le_of_ble_eq_true rfl)
  rw [lg_entry_eq]
  generalize (lg_sl ([.ref a, .int n, .ref o]) ++ List.replicate (4 - (lg_sl ([.ref a, .int n, .ref o])).length) Slot.unset).toArray = ls at hl ⊢
  have hl : lv_has ls 4 [(0, .ref a), (1, .int n), (2, .ref o)] := hl
  rw [hH]
  have hL : ∀ q ∈ ([] : List Loc), (x_fr (g_Mx a z) H0) q.base := fun q hq => by cases hq
  obtain ⟨pa, as, bs, cs, ds, h1, h2, h3, ⟨h4, h4s⟩, ⟨h5, h5s⟩, ⟨h6, h6s⟩, ⟨h7, h7s⟩, h8, h9⟩ := id hd
  refine lv_aload_n hx hb d_La_breakOff_0 rfl (lv_at hl 2 rfl) ?_
  refine lv_iconst (v := 0) hx hb d_La_breakOff_1 (by decide) ?_
  refine lv_aload_n hx hb d_La_breakOff_2 rfl (lv_at hl 0 rfl) ?_
  refine lv_iload_n hx hb d_La_breakOff_3 rfl (lv_at hl 1 rfl) ?_
  refine x_catch (F := x_fr (g_Mx a z) H0) (own := "BreakingDiskLaw") (name := "java/lang/IllegalArgumentException") (pre := []) (x := ⟨0, 9, 12, 13⟩) (rest' := []) (x_runVT (As := [.int n]) (rest := [.int 0, .ref o]) ⟨hx, hb, hml, hown, htb⟩ (c_Bd_breakOffT l hlt0 hn) (x_cV 1 htb mw_444 mw_1 mw_447 mw_445 mw_446 rfl rfl (by decide +kernel) ⟨Nat.le_of_ble_eq_true rfl, Nat.le_of_ble_eq_true rfl⟩) (x_preVT hK hN hT h1 rfl) rfl rfl hl.1 rfl (lv_room (Nat.le_of_ble_eq_true rfl)) d_La_breakOff_4 ⟨Nat.le_of_ble_eq_true rfl, Nat.le_of_ble_eq_true rfl⟩) hL (fun q hq => Or.inr hq) hown htab rfl (by decide) (htb _ mw_227) (va_Nw.use rfl (hN.1 _ nf_234)) (fun y hy => by cases hy) (fun q9 H1 locs hP hL => ?_)
  show W _ _ _ _ _ _ _ _ _ _ _ _ _ _ _ (F0 m 12 ls [.ref q9])
  refine lv_astore_n (lv' := [(3, .ref q9), (0, .ref a), (1, .int n), (2, .ref o)]) hx hb d_La_breakOff_12 rfl hl (by decide) rfl (fun ls hl => ?_)
  refine lv_iconst (v := 1) hx hb d_La_breakOff_13 (by decide) ?_
  exact x_iret hx hb hr hlocks rfl hP hL (Nat.le_refl _) (Nat.le_refl _) d_La_breakOff_14
set_option maxHeartbeats 4000000 in
set_option maxRecDepth 100000 in
theorem c_La_write (l : Launch) {D : va_G} {A : Nat → ClassId} {H0 : Heap} {a z : Nat} {S : g_S} (hd : g_D D A a z S H0) {x y : Int32} (hok : g_ok x y) (hroom : S.2.2.1.length < 60 ∨ ∃ f, g_get S.2.2.1 (x, y, S.2.1) = some f) (hlt : S.2.2.2.2.2.1.length < 200) : Met l y_La_write w_La_write { frames := 7, cells := 5, slots := 408, locals := 155 } (x_PcL D A (g_Mx a z) [.ref a, .int x, .int y] H0) (x_Q (some (.int 0)) (fun H1 => g_D D A a z ([], S.2.1, g_ap S.2.2.1 ((x, y, S.2.1), some ((x, y, S.2.1), S.1)), S.2.2.2.1, S.2.2.2.2.1, S.2.2.2.2.2.1 ++ [((x, y, S.2.1), some ((x, y, S.2.1), S.1))], S.2.2.2.2.2.2 + 1) H1 ∧ g_K (g_M a z) H0 H1)) 5 408 (x_fr (g_Mx a z) H0) := by
  refine va_MetW (cc := method_4_code) (maxL := 4) (ret := (some .int)) (hh := [(0, 6, 9, 19), (0, 6, 12, 21)]) (by decide) rfl ?_
  intro p e s m args below meth c s₁ B hml hv
  obtain ⟨rfl, hH, hK, hN, hT, hNc⟩ := hv
  obtain ⟨hx, hb, hr, htb, hown, hlocks⟩ := x_start (wd := Cond.codeWith y_La_write method_4_code 4 (some .int) [(0, 6, 9, 19), (0, 6, 12, 21)]) B
  have htab := vx_table (x := y_La_write) B (atoms_spec (ws := w_La_write) B.pre _ List.mem_cons_self)
  have hl := lv_entry ([.ref a, .int x, .int y]) (n := 4) (Nat.le_of_ble_eq_true rfl)
  rw [lg_entry_eq]
  generalize (lg_sl ([.ref a, .int x, .int y]) ++ List.replicate (4 - (lg_sl ([.ref a, .int x, .int y])).length) Slot.unset).toArray = ls at hl ⊢
  have hl : lv_has ls 4 [(0, .ref a), (1, .int x), (2, .int y)] := hl
  rw [hH]
  have hL : ∀ q ∈ ([] : List Loc), (x_fr (g_Mx a z) H0) q.base := fun q hq => by cases hq
  obtain ⟨pa, as, bs, cs, ds, h1, h2, h3, ⟨h4, h4s⟩, ⟨h5, h5s⟩, ⟨h6, h6s⟩, ⟨h7, h7s⟩, h8, h9⟩ := id hd
  refine lv_aload_n hx hb d_La_write_0 rfl (lv_at hl 0 rfl) ?_
  refine lv_iload_n hx hb d_La_write_1 rfl (lv_at hl 1 rfl) ?_
  refine lv_iload_n hx hb d_La_write_2 rfl (lv_at hl 2 rfl) ?_
  refine x_call (F := x_fr (g_Mx a z) H0) (va_runV (As := [.int x, .int y]) (rest := []) ⟨hx, hb, hml, hown, htb⟩ (c_Bd_write l hd hok hroom hlt) (x_cV 2 htb mw_326 mw_1 mw_329 mw_327 mw_328 rfl rfl (by decide +kernel) ⟨Nat.le_of_ble_eq_true rfl, Nat.le_of_ble_eq_true rfl⟩) (x_preV hK hN h1 rfl) rfl rfl hl.1 rfl (lv_room (Nat.le_of_ble_eq_true rfl)) d_La_write_3 ⟨Nat.le_of_ble_eq_true rfl, Nat.le_of_ble_eq_true rfl⟩) hL (fun q hq => hq) (fun H1 locs hP hL => ?_)
  refine W.eq (g2 := F0 m 6 ls []) rfl ?_
  refine lv_goto (tgt := 15) hx hb d_La_write_6 (by decide) ?_
  refine lv_iconst (v := 0) hx hb d_La_write_15 (by decide) ?_
  exact x_iret hx hb hr hlocks rfl hP hL (Nat.le_refl _) (Nat.le_refl _) d_La_write_16
set_option maxHeartbeats 4000000 in
set_option maxRecDepth 100000 in
theorem c_La_writeT1 (l : Launch) (hlt0 : l.stackTraces = false) {D : va_G} {A : Nat → ClassId} {H0 : Heap} {a z : Nat} {S : g_S} (hd : g_D D A a z S H0) {x y : Int32} (hok : ¬ g_ok x y) : Met l y_La_write w_La_write { frames := 8, cells := 1, slots := 6, locals := 134 } (x_PcL D A (g_Mx a z) [.ref a, .int x, .int y] H0) (x_Q (some (.int 1)) (fun H1 => H0.size ≤ H1.size ∧ ∀ q : Nat, q < H0.size → H1[q]? = H0[q]?)) 1 6 (x_fr (g_Mx a z) H0) := by
  refine va_MetW (cc := method_4_code) (maxL := 4) (ret := (some .int)) (hh := [(0, 6, 9, 19), (0, 6, 12, 21)]) (by decide) rfl ?_
  intro p e s m args below meth c s₁ B hml hv
  obtain ⟨rfl, hH, hK, hN, hT, hNc⟩ := hv
  obtain ⟨hx, hb, hr, htb, hown, hlocks⟩ := x_start (wd := Cond.codeWith y_La_write method_4_code 4 (some .int) [(0, 6, 9, 19), (0, 6, 12, 21)]) B
  have htab := vx_table (x := y_La_write) B (atoms_spec (ws := w_La_write) B.pre _ List.mem_cons_self)
  have hl := lv_entry ([.ref a, .int x, .int y]) (n := 4) (Nat.le_of_ble_eq_true rfl)
  rw [lg_entry_eq]
  generalize (lg_sl ([.ref a, .int x, .int y]) ++ List.replicate (4 - (lg_sl ([.ref a, .int x, .int y])).length) Slot.unset).toArray = ls at hl ⊢
  have hl : lv_has ls 4 [(0, .ref a), (1, .int x), (2, .int y)] := hl
  rw [hH]
  have hL : ∀ q ∈ ([] : List Loc), (x_fr (g_Mx a z) H0) q.base := fun q hq => by cases hq
  obtain ⟨pa, as, bs, cs, ds, h1, h2, h3, ⟨h4, h4s⟩, ⟨h5, h5s⟩, ⟨h6, h6s⟩, ⟨h7, h7s⟩, h8, h9⟩ := id hd
  refine lv_aload_n hx hb d_La_write_0 rfl (lv_at hl 0 rfl) ?_
  refine lv_iload_n hx hb d_La_write_1 rfl (lv_at hl 1 rfl) ?_
  refine lv_iload_n hx hb d_La_write_2 rfl (lv_at hl 2 rfl) ?_
  refine x_catch (F := x_fr (g_Mx a z) H0) (own := "BreakingDiskLaw") (name := "java/lang/IndexOutOfBoundsException") (pre := []) (x := ⟨0, 6, 9, 19⟩) (rest' := [⟨0, 6, 12, 21⟩]) (x_runVT (As := [.int x, .int y]) (rest := []) ⟨hx, hb, hml, hown, htb⟩ (c_Bd_writeT1 l hlt0 hd hok) (x_cV 2 htb mw_326 mw_1 mw_329 mw_327 mw_328 rfl rfl (by decide +kernel) ⟨Nat.le_of_ble_eq_true rfl, Nat.le_of_ble_eq_true rfl⟩) (x_preVT hK hN hT h1 rfl) rfl rfl hl.1 rfl (lv_room (Nat.le_of_ble_eq_true rfl)) d_La_write_3 ⟨Nat.le_of_ble_eq_true rfl, Nat.le_of_ble_eq_true rfl⟩) hL (fun q hq => Or.inr hq) hown htab rfl (by decide) (htb _ mw_324) (va_Nw.use rfl (hN.1 _ nf_335)) (fun y hy => by cases hy) (fun q9 H1 locs hP hL => ?_)
  show W _ _ _ _ _ _ _ _ _ _ _ _ _ _ _ (F0 m 9 ls [.ref q9])
  refine lv_astore_n (lv' := [(3, .ref q9), (0, .ref a), (1, .int x), (2, .int y)]) hx hb d_La_write_9 rfl hl (by decide) rfl (fun ls hl => ?_)
  refine lv_iconst (v := 1) hx hb d_La_write_10 (by decide) ?_
  exact x_iret hx hb hr hlocks rfl hP hL (Nat.le_refl _) (Nat.le_refl _) d_La_write_11
set_option maxHeartbeats 4000000 in
set_option maxRecDepth 100000 in
theorem c_La_writeT2 (l : Launch) (hlt0 : l.stackTraces = false) {D : va_G} {A : Nat → ClassId} {H0 : Heap} {a z : Nat} {S : g_S} (hd : g_D D A a z S H0) {x y : Int32} (hok : g_ok x y) (hbad : 200 ≤ S.2.2.2.2.2.1.length ∨ (60 ≤ S.2.2.1.length ∧ g_get S.2.2.1 (x, y, S.2.1) = none)) : Met l y_La_write w_La_write { frames := 8, cells := 2, slots := 9, locals := 133 } (x_PcL D A (g_Mx a z) [.ref a, .int x, .int y] H0) (x_Q (some (.int 2)) (fun H1 => H0.size ≤ H1.size ∧ ∀ q : Nat, q < H0.size → H1[q]? = H0[q]?)) 2 9 (x_fr (g_Mx a z) H0) := by
  refine va_MetW (cc := method_4_code) (maxL := 4) (ret := (some .int)) (hh := [(0, 6, 9, 19), (0, 6, 12, 21)]) (by decide) rfl ?_
  intro p e s m args below meth c s₁ B hml hv
  obtain ⟨rfl, hH, hK, hN, hT, hNc⟩ := hv
  obtain ⟨hx, hb, hr, htb, hown, hlocks⟩ := x_start (wd := Cond.codeWith y_La_write method_4_code 4 (some .int) [(0, 6, 9, 19), (0, 6, 12, 21)]) B
  have htab := vx_table (x := y_La_write) B (atoms_spec (ws := w_La_write) B.pre _ List.mem_cons_self)
  have hl := lv_entry ([.ref a, .int x, .int y]) (n := 4) (Nat.le_of_ble_eq_true rfl)
  rw [lg_entry_eq]
  generalize (lg_sl ([.ref a, .int x, .int y]) ++ List.replicate (4 - (lg_sl ([.ref a, .int x, .int y])).length) Slot.unset).toArray = ls at hl ⊢
  have hl : lv_has ls 4 [(0, .ref a), (1, .int x), (2, .int y)] := hl
  rw [hH]
  have hL : ∀ q ∈ ([] : List Loc), (x_fr (g_Mx a z) H0) q.base := fun q hq => by cases hq
  obtain ⟨pa, as, bs, cs, ds, h1, h2, h3, ⟨h4, h4s⟩, ⟨h5, h5s⟩, ⟨h6, h6s⟩, ⟨h7, h7s⟩, h8, h9⟩ := id hd
  refine lv_aload_n hx hb d_La_write_0 rfl (lv_at hl 0 rfl) ?_
  refine lv_iload_n hx hb d_La_write_1 rfl (lv_at hl 1 rfl) ?_
  refine lv_iload_n hx hb d_La_write_2 rfl (lv_at hl 2 rfl) ?_
  refine x_catch (F := x_fr (g_Mx a z) H0) (own := "BreakingDiskLaw") (name := "java/lang/IllegalStateException") (pre := [⟨0, 6, 9, 19⟩]) (x := ⟨0, 6, 12, 21⟩) (rest' := []) (x_runVT (As := [.int x, .int y]) (rest := []) ⟨hx, hb, hml, hown, htb⟩ (c_Bd_writeT2 l hlt0 hd hok hbad) (x_cV 2 htb mw_326 mw_1 mw_329 mw_327 mw_328 rfl rfl (by decide +kernel) ⟨Nat.le_of_ble_eq_true rfl, Nat.le_of_ble_eq_true rfl⟩) (x_preVT hK hN hT h1 rfl) rfl rfl hl.1 rfl (lv_room (Nat.le_of_ble_eq_true rfl)) d_La_write_3 ⟨Nat.le_of_ble_eq_true rfl, Nat.le_of_ble_eq_true rfl⟩) hL (fun q hq => Or.inr hq) hown htab rfl (by decide) (htb _ mw_325) (va_Nw.use rfl (hN.1 _ nf_352)) (by
      intro y hy
      rcases List.mem_cons.mp hy with rfl | hy
      · exact ⟨rfl, by decide, _, htb _ mw_324, hNc.1⟩
      cases hy) (fun q9 H1 locs hP hL => ?_)
  show W _ _ _ _ _ _ _ _ _ _ _ _ _ _ _ (F0 m 12 ls [.ref q9])
  refine lv_astore_n (lv' := [(3, .ref q9), (0, .ref a), (1, .int x), (2, .int y)]) hx hb d_La_write_12 rfl hl (by decide) rfl (fun ls hl => ?_)
  refine lv_iconst (v := 2) hx hb d_La_write_13 (by decide) ?_
  exact x_iret hx hb hr hlocks rfl hP hL (Nat.le_refl _) (Nat.le_refl _) d_La_write_14
set_option maxHeartbeats 4000000 in
set_option maxRecDepth 100000 in
theorem c_La_delete (l : Launch) {D : va_G} {A : Nat → ClassId} {H0 : Heap} {a z : Nat} {S : g_S} (hd : g_D D A a z S H0) {x y : Int32} (hok : g_ok x y) {f : g_F} (hg : g_get S.2.2.1 (x, y, S.2.1) = some f) (hnm : f.1 = (x, y, S.2.1)) (hlt : S.2.2.2.2.2.1.length < 200) : Met l y_La_delete w_La_delete { frames := 7, cells := 2, slots := 5, locals := 155 } (x_PcL D A (g_Mx a z) [.ref a, .int x, .int y] H0) (x_Q (some (.int 0)) (fun H1 => g_D D A a z (S.1, S.2.1, g_ap S.2.2.1 ((x, y, S.2.1), none), S.2.2.2.1, S.2.2.2.2.1, S.2.2.2.2.2.1 ++ [((x, y, S.2.1), none)], S.2.2.2.2.2.2 + 1) H1 ∧ g_K (g_M a z) H0 H1)) 2 5 (x_fr (g_Mx a z) H0) := by
  refine va_MetW (cc := method_6_code) (maxL := 4) (ret := (some .int)) (hh := [(0, 6, 9, 19), (0, 6, 12, 13), (0, 6, 15, 21)]) (by decide) rfl ?_
  intro p e s m args below meth c s₁ B hml hv
  obtain ⟨rfl, hH, hK, hN, hT, hNc⟩ := hv
  obtain ⟨hx, hb, hr, htb, hown, hlocks⟩ := x_start (wd := Cond.codeWith y_La_delete method_6_code 4 (some .int) [(0, 6, 9, 19), (0, 6, 12, 13), (0, 6, 15, 21)]) B
  have htab := vx_table (x := y_La_delete) B (atoms_spec (ws := w_La_delete) B.pre _ List.mem_cons_self)
  have hl := lv_entry ([.ref a, .int x, .int y]) (n := 4) (Nat.le_of_ble_eq_true rfl)
  rw [lg_entry_eq]
  generalize (lg_sl ([.ref a, .int x, .int y]) ++ List.replicate (4 - (lg_sl ([.ref a, .int x, .int y])).length) Slot.unset).toArray = ls at hl ⊢
  have hl : lv_has ls 4 [(0, .ref a), (1, .int x), (2, .int y)] := hl
  rw [hH]
  have hL : ∀ q ∈ ([] : List Loc), (x_fr (g_Mx a z) H0) q.base := fun q hq => by cases hq
  obtain ⟨pa, as, bs, cs, ds, h1, h2, h3, ⟨h4, h4s⟩, ⟨h5, h5s⟩, ⟨h6, h6s⟩, ⟨h7, h7s⟩, h8, h9⟩ := id hd
  refine lv_aload_n hx hb d_La_delete_0 rfl (lv_at hl 0 rfl) ?_
  refine lv_iload_n hx hb d_La_delete_1 rfl (lv_at hl 1 rfl) ?_
  refine lv_iload_n hx hb d_La_delete_2 rfl (lv_at hl 2 rfl) ?_
  refine x_call (F := x_fr (g_Mx a z) H0) (va_runV (As := [.int x, .int y]) (rest := []) ⟨hx, hb, hml, hown, htb⟩ (c_Bd_delete l hd hok hg hnm hlt) (x_cV 2 htb mw_437 mw_1 mw_440 mw_438 mw_439 rfl rfl (by decide +kernel) ⟨Nat.le_of_ble_eq_true rfl, Nat.le_of_ble_eq_true rfl⟩) (x_preV hK hN h1 rfl) rfl rfl hl.1 rfl (lv_room (Nat.le_of_ble_eq_true rfl)) d_La_delete_3 ⟨Nat.le_of_ble_eq_true rfl, Nat.le_of_ble_eq_true rfl⟩) hL (fun q hq => hq) (fun H1 locs hP hL => ?_)
  refine W.eq (g2 := F0 m 6 ls []) rfl ?_
  refine lv_goto (tgt := 18) hx hb d_La_delete_6 (by decide) ?_
  refine lv_iconst (v := 0) hx hb d_La_delete_18 (by decide) ?_
  exact x_iret hx hb hr hlocks rfl hP hL (Nat.le_refl _) (Nat.le_refl _) d_La_delete_19
set_option maxHeartbeats 4000000 in
set_option maxRecDepth 100000 in
theorem c_La_deleteT1 (l : Launch) (hlt0 : l.stackTraces = false) {D : va_G} {A : Nat → ClassId} {H0 : Heap} {a z : Nat} {S : g_S} (hd : g_D D A a z S H0) {x y : Int32} (hok : ¬ g_ok x y) : Met l y_La_delete w_La_delete { frames := 8, cells := 1, slots := 6, locals := 134 } (x_PcL D A (g_Mx a z) [.ref a, .int x, .int y] H0) (x_Q (some (.int 1)) (fun H1 => H0.size ≤ H1.size ∧ ∀ q : Nat, q < H0.size → H1[q]? = H0[q]?)) 1 6 (x_fr (g_Mx a z) H0) := by
  refine va_MetW (cc := method_6_code) (maxL := 4) (ret := (some .int)) (hh := [(0, 6, 9, 19), (0, 6, 12, 13), (0, 6, 15, 21)]) (by decide) rfl ?_
  intro p e s m args below meth c s₁ B hml hv
  obtain ⟨rfl, hH, hK, hN, hT, hNc⟩ := hv
  obtain ⟨hx, hb, hr, htb, hown, hlocks⟩ := x_start (wd := Cond.codeWith y_La_delete method_6_code 4 (some .int) [(0, 6, 9, 19), (0, 6, 12, 13), (0, 6, 15, 21)]) B
  have htab := vx_table (x := y_La_delete) B (atoms_spec (ws := w_La_delete) B.pre _ List.mem_cons_self)
  have hl := lv_entry ([.ref a, .int x, .int y]) (n := 4) (Nat.le_of_ble_eq_true rfl)
  rw [lg_entry_eq]
  generalize (lg_sl ([.ref a, .int x, .int y]) ++ List.replicate (4 - (lg_sl ([.ref a, .int x, .int y])).length) Slot.unset).toArray = ls at hl ⊢
  have hl : lv_has ls 4 [(0, .ref a), (1, .int x), (2, .int y)] := hl
  rw [hH]
  have hL : ∀ q ∈ ([] : List Loc), (x_fr (g_Mx a z) H0) q.base := fun q hq => by cases hq
  obtain ⟨pa, as, bs, cs, ds, h1, h2, h3, ⟨h4, h4s⟩, ⟨h5, h5s⟩, ⟨h6, h6s⟩, ⟨h7, h7s⟩, h8, h9⟩ := id hd
  refine lv_aload_n hx hb d_La_delete_0 rfl (lv_at hl 0 rfl) ?_
  refine lv_iload_n hx hb d_La_delete_1 rfl (lv_at hl 1 rfl) ?_
  refine lv_iload_n hx hb d_La_delete_2 rfl (lv_at hl 2 rfl) ?_
  refine x_catch (F := x_fr (g_Mx a z) H0) (own := "BreakingDiskLaw") (name := "java/lang/IndexOutOfBoundsException") (pre := []) (x := ⟨0, 6, 9, 19⟩) (rest' := [⟨0, 6, 12, 13⟩, ⟨0, 6, 15, 21⟩]) (x_runVT (As := [.int x, .int y]) (rest := []) ⟨hx, hb, hml, hown, htb⟩ (c_Bd_deleteT1 l hlt0 hd hok) (x_cV 2 htb mw_437 mw_1 mw_440 mw_438 mw_439 rfl rfl (by decide +kernel) ⟨Nat.le_of_ble_eq_true rfl, Nat.le_of_ble_eq_true rfl⟩) (x_preVT hK hN hT h1 rfl) rfl rfl hl.1 rfl (lv_room (Nat.le_of_ble_eq_true rfl)) d_La_delete_3 ⟨Nat.le_of_ble_eq_true rfl, Nat.le_of_ble_eq_true rfl⟩) hL (fun q hq => Or.inr hq) hown htab rfl (by decide) (htb _ mw_324) (va_Nw.use rfl (hN.1 _ nf_335)) (fun y hy => by cases hy) (fun q9 H1 locs hP hL => ?_)
  show W _ _ _ _ _ _ _ _ _ _ _ _ _ _ _ (F0 m 9 ls [.ref q9])
  refine lv_astore_n (lv' := [(3, .ref q9), (0, .ref a), (1, .int x), (2, .int y)]) hx hb d_La_delete_9 rfl hl (by decide) rfl (fun ls hl => ?_)
  refine lv_iconst (v := 1) hx hb d_La_delete_10 (by decide) ?_
  exact x_iret hx hb hr hlocks rfl hP hL (Nat.le_refl _) (Nat.le_refl _) d_La_delete_11
set_option maxHeartbeats 4000000 in
set_option maxRecDepth 100000 in
theorem c_La_deleteT2 (l : Launch) (hlt0 : l.stackTraces = false) {D : va_G} {A : Nat → ClassId} {H0 : Heap} {a z : Nat} {S : g_S} (hd : g_D D A a z S H0) {x y : Int32} (hok : g_ok x y) (hg : g_get S.2.2.1 (x, y, S.2.1) = none) : Met l y_La_delete w_La_delete { frames := 8, cells := 2, slots := 9, locals := 136 } (x_PcL D A (g_Mx a z) [.ref a, .int x, .int y] H0) (x_Q (some (.int 2)) (fun H1 => H0.size ≤ H1.size ∧ ∀ q : Nat, q < H0.size → H1[q]? = H0[q]?)) 2 9 (x_fr (g_Mx a z) H0) := by
  refine va_MetW (cc := method_6_code) (maxL := 4) (ret := (some .int)) (hh := [(0, 6, 9, 19), (0, 6, 12, 13), (0, 6, 15, 21)]) (by decide) rfl ?_
  intro p e s m args below meth c s₁ B hml hv
  obtain ⟨rfl, hH, hK, hN, hT, hNc⟩ := hv
  obtain ⟨hx, hb, hr, htb, hown, hlocks⟩ := x_start (wd := Cond.codeWith y_La_delete method_6_code 4 (some .int) [(0, 6, 9, 19), (0, 6, 12, 13), (0, 6, 15, 21)]) B
  have htab := vx_table (x := y_La_delete) B (atoms_spec (ws := w_La_delete) B.pre _ List.mem_cons_self)
  have hl := lv_entry ([.ref a, .int x, .int y]) (n := 4) (Nat.le_of_ble_eq_true rfl)
  rw [lg_entry_eq]
  generalize (lg_sl ([.ref a, .int x, .int y]) ++ List.replicate (4 - (lg_sl ([.ref a, .int x, .int y])).length) Slot.unset).toArray = ls at hl ⊢
  have hl : lv_has ls 4 [(0, .ref a), (1, .int x), (2, .int y)] := hl
  rw [hH]
  have hL : ∀ q ∈ ([] : List Loc), (x_fr (g_Mx a z) H0) q.base := fun q hq => by cases hq
  obtain ⟨pa, as, bs, cs, ds, h1, h2, h3, ⟨h4, h4s⟩, ⟨h5, h5s⟩, ⟨h6, h6s⟩, ⟨h7, h7s⟩, h8, h9⟩ := id hd
  refine lv_aload_n hx hb d_La_delete_0 rfl (lv_at hl 0 rfl) ?_
  refine lv_iload_n hx hb d_La_delete_1 rfl (lv_at hl 1 rfl) ?_
  refine lv_iload_n hx hb d_La_delete_2 rfl (lv_at hl 2 rfl) ?_
  refine x_catch (F := x_fr (g_Mx a z) H0) (own := "BreakingDiskLaw") (name := "java/lang/IllegalArgumentException") (pre := [⟨0, 6, 9, 19⟩]) (x := ⟨0, 6, 12, 13⟩) (rest' := [⟨0, 6, 15, 21⟩]) (x_runVT (As := [.int x, .int y]) (rest := []) ⟨hx, hb, hml, hown, htb⟩ (c_Bd_deleteT2 l hlt0 hd hok hg) (x_cV 2 htb mw_437 mw_1 mw_440 mw_438 mw_439 rfl rfl (by decide +kernel) ⟨Nat.le_of_ble_eq_true rfl, Nat.le_of_ble_eq_true rfl⟩) (x_preVT hK hN hT h1 rfl) rfl rfl hl.1 rfl (lv_room (Nat.le_of_ble_eq_true rfl)) d_La_delete_3 ⟨Nat.le_of_ble_eq_true rfl, Nat.le_of_ble_eq_true rfl⟩) hL (fun q hq => Or.inr hq) hown htab rfl (by decide) (htb _ mw_227) (va_Nw.use rfl (hN.1 _ nf_234)) (by
      intro y hy
      rcases List.mem_cons.mp hy with rfl | hy
      · exact ⟨rfl, by decide, _, htb _ mw_324, hNc.2.1⟩
      cases hy) (fun q9 H1 locs hP hL => ?_)
  show W _ _ _ _ _ _ _ _ _ _ _ _ _ _ _ (F0 m 12 ls [.ref q9])
  refine lv_astore_n (lv' := [(3, .ref q9), (0, .ref a), (1, .int x), (2, .int y)]) hx hb d_La_delete_12 rfl hl (by decide) rfl (fun ls hl => ?_)
  refine lv_iconst (v := 2) hx hb d_La_delete_13 (by decide) ?_
  exact x_iret hx hb hr hlocks rfl hP hL (Nat.le_refl _) (Nat.le_refl _) d_La_delete_14
set_option maxHeartbeats 4000000 in
set_option maxRecDepth 100000 in
theorem c_La_deleteT3 (l : Launch) (hlt0 : l.stackTraces = false) {D : va_G} {A : Nat → ClassId} {H0 : Heap} {a z : Nat} {S : g_S} (hd : g_D D A a z S H0) {x y : Int32} (hok : g_ok x y) {f : g_F} (hg : g_get S.2.2.1 (x, y, S.2.1) = some f) (hge : 200 ≤ S.2.2.2.2.2.1.length) : Met l y_La_delete w_La_delete { frames := 8, cells := 2, slots := 9, locals := 134 } (x_PcL D A (g_Mx a z) [.ref a, .int x, .int y] H0) (x_Q (some (.int 3)) (fun H1 => H0.size ≤ H1.size ∧ ∀ q : Nat, q < H0.size → H1[q]? = H0[q]?)) 2 9 (x_fr (g_Mx a z) H0) := by
  refine va_MetW (cc := method_6_code) (maxL := 4) (ret := (some .int)) (hh := [(0, 6, 9, 19), (0, 6, 12, 13), (0, 6, 15, 21)]) (by decide) rfl ?_
  intro p e s m args below meth c s₁ B hml hv
  obtain ⟨rfl, hH, hK, hN, hT, hNc⟩ := hv
  obtain ⟨hx, hb, hr, htb, hown, hlocks⟩ := x_start (wd := Cond.codeWith y_La_delete method_6_code 4 (some .int) [(0, 6, 9, 19), (0, 6, 12, 13), (0, 6, 15, 21)]) B
  have htab := vx_table (x := y_La_delete) B (atoms_spec (ws := w_La_delete) B.pre _ List.mem_cons_self)
  have hl := lv_entry ([.ref a, .int x, .int y]) (n := 4) (Nat.le_of_ble_eq_true rfl)
  rw [lg_entry_eq]
  generalize (lg_sl ([.ref a, .int x, .int y]) ++ List.replicate (4 - (lg_sl ([.ref a, .int x, .int y])).length) Slot.unset).toArray = ls at hl ⊢
  have hl : lv_has ls 4 [(0, .ref a), (1, .int x), (2, .int y)] := hl
  rw [hH]
  have hL : ∀ q ∈ ([] : List Loc), (x_fr (g_Mx a z) H0) q.base := fun q hq => by cases hq
  obtain ⟨pa, as, bs, cs, ds, h1, h2, h3, ⟨h4, h4s⟩, ⟨h5, h5s⟩, ⟨h6, h6s⟩, ⟨h7, h7s⟩, h8, h9⟩ := id hd
  refine lv_aload_n hx hb d_La_delete_0 rfl (lv_at hl 0 rfl) ?_
  refine lv_iload_n hx hb d_La_delete_1 rfl (lv_at hl 1 rfl) ?_
  refine lv_iload_n hx hb d_La_delete_2 rfl (lv_at hl 2 rfl) ?_
  refine x_catch (F := x_fr (g_Mx a z) H0) (own := "BreakingDiskLaw") (name := "java/lang/IllegalStateException") (pre := [⟨0, 6, 9, 19⟩, ⟨0, 6, 12, 13⟩]) (x := ⟨0, 6, 15, 21⟩) (rest' := []) (x_runVT (As := [.int x, .int y]) (rest := []) ⟨hx, hb, hml, hown, htb⟩ (c_Bd_deleteT3 l hlt0 hd hok hg hge) (x_cV 2 htb mw_437 mw_1 mw_440 mw_438 mw_439 rfl rfl (by decide +kernel) ⟨Nat.le_of_ble_eq_true rfl, Nat.le_of_ble_eq_true rfl⟩) (x_preVT hK hN hT h1 rfl) rfl rfl hl.1 rfl (lv_room (Nat.le_of_ble_eq_true rfl)) d_La_delete_3 ⟨Nat.le_of_ble_eq_true rfl, Nat.le_of_ble_eq_true rfl⟩) hL (fun q hq => Or.inr hq) hown htab rfl (by decide) (htb _ mw_325) (va_Nw.use rfl (hN.1 _ nf_352)) (by
      intro y hy
      rcases List.mem_cons.mp hy with rfl | hy
      · exact ⟨rfl, by decide, _, htb _ mw_324, hNc.1⟩
      rcases List.mem_cons.mp hy with rfl | hy
      · exact ⟨rfl, by decide, _, htb _ mw_227, hNc.2.2⟩
      cases hy) (fun q9 H1 locs hP hL => ?_)
  show W _ _ _ _ _ _ _ _ _ _ _ _ _ _ _ (F0 m 15 ls [.ref q9])
  refine lv_astore_n (lv' := [(3, .ref q9), (0, .ref a), (1, .int x), (2, .int y)]) hx hb d_La_delete_15 rfl hl (by decide) rfl (fun ls hl => ?_)
  refine lv_iconst (v := 3) hx hb d_La_delete_16 (by decide) ?_
  exact x_iret hx hb hr hlocks rfl hP hL (Nat.le_refl _) (Nat.le_refl _) d_La_delete_17
set_option maxHeartbeats 4000000 in
set_option maxRecDepth 100000 in
theorem c_La_rename (l : Launch) {D : va_G} {A : Nat → ClassId} {H0 : Heap} {a z : Nat} {S : g_S} (hd : g_D D A a z S H0) {x y x2 y2 : Int32} (hok : g_ok x y) (hok2 : g_ok x2 y2) {f : g_F} (hg : g_get S.2.2.1 (x, y, S.2.1) = some f) (hnm : f.1 = (x, y, S.2.1)) (hlt : S.2.2.2.2.2.1.length < 200) : Met l y_La_rename w_La_rename { frames := 7, cells := 4, slots := 10, locals := 157 } (x_PcL D A (g_Mx a z) [.ref a, .int x, .int y, .int x2, .int y2] H0) (x_Q (some (.int 0)) (fun H1 => g_D D A a z (S.1, S.2.1, g_ap S.2.2.1 ((x, y, S.2.1), some ((x2, y2, S.2.1), f.2)), S.2.2.2.1, S.2.2.2.2.1, S.2.2.2.2.2.1 ++ [((x, y, S.2.1), some ((x2, y2, S.2.1), f.2))], S.2.2.2.2.2.2 + 1) H1 ∧ g_K (g_M a z) H0 H1)) 4 10 (x_fr (g_Mx a z) H0) := by
  refine va_MetW (cc := method_5_code) (maxL := 6) (ret := (some .int)) (hh := [(0, 9, 12, 19), (0, 9, 16, 13), (0, 9, 20, 21)]) (by decide) rfl ?_
  intro p e s m args below meth c s₁ B hml hv
  obtain ⟨rfl, hH, hK, hN, hT, hNc⟩ := hv
  obtain ⟨hx, hb, hr, htb, hown, hlocks⟩ := x_start (wd := Cond.codeWith y_La_rename method_5_code 6 (some .int) [(0, 9, 12, 19), (0, 9, 16, 13), (0, 9, 20, 21)]) B
  have htab := vx_table (x := y_La_rename) B (atoms_spec (ws := w_La_rename) B.pre _ List.mem_cons_self)
  have hl := lv_entry ([.ref a, .int x, .int y, .int x2, .int y2]) (n := 6) (Nat.le_of_ble_eq_true rfl)
  rw [lg_entry_eq]
  generalize (lg_sl ([.ref a, .int x, .int y, .int x2, .int y2]) ++ List.replicate (6 - (lg_sl ([.ref a, .int x, .int y, .int x2, .int y2])).length) Slot.unset).toArray = ls at hl ⊢
  have hl : lv_has ls 6 [(0, .ref a), (1, .int x), (2, .int y), (3, .int x2), (4, .int y2)] := hl
  rw [hH]
  have hL : ∀ q ∈ ([] : List Loc), (x_fr (g_Mx a z) H0) q.base := fun q hq => by cases hq
  obtain ⟨pa, as, bs, cs, ds, h1, h2, h3, ⟨h4, h4s⟩, ⟨h5, h5s⟩, ⟨h6, h6s⟩, ⟨h7, h7s⟩, h8, h9⟩ := id hd
  refine lv_aload_n hx hb d_La_rename_0 rfl (lv_at hl 0 rfl) ?_
  refine lv_iload_n hx hb d_La_rename_1 rfl (lv_at hl 1 rfl) ?_
  refine lv_iload_n hx hb d_La_rename_2 rfl (lv_at hl 2 rfl) ?_
  refine lv_iload_n hx hb d_La_rename_3 rfl (lv_at hl 3 rfl) ?_
  refine lv_iload hx hb d_La_rename_4 (lv_at hl 4 rfl) ?_
  refine x_call (F := x_fr (g_Mx a z) H0) (va_runV (As := [.int x, .int y, .int x2, .int y2]) (rest := []) ⟨hx, hb, hml, hown, htb⟩ (c_Bd_rename l hd hok hok2 hg hnm hlt) (x_cV 4 htb mw_425 mw_1 mw_428 mw_426 mw_427 rfl rfl (by decide +kernel) ⟨Nat.le_of_ble_eq_true rfl, Nat.le_of_ble_eq_true rfl⟩) (x_preV hK hN h1 rfl) rfl rfl hl.1 rfl (lv_room (Nat.le_of_ble_eq_true rfl)) d_La_rename_6 ⟨Nat.le_of_ble_eq_true rfl, Nat.le_of_ble_eq_true rfl⟩) hL (fun q hq => hq) (fun H1 locs hP hL => ?_)
  refine W.eq (g2 := F0 m 9 ls []) rfl ?_
  refine lv_goto (tgt := 24) hx hb d_La_rename_9 (by decide) ?_
  refine lv_iconst (v := 0) hx hb d_La_rename_24 (by decide) ?_
  exact x_iret hx hb hr hlocks rfl hP hL (Nat.le_refl _) (Nat.le_refl _) d_La_rename_25
set_option maxHeartbeats 4000000 in
set_option maxRecDepth 100000 in
theorem c_La_renameT1 (l : Launch) (hlt0 : l.stackTraces = false) {D : va_G} {A : Nat → ClassId} {H0 : Heap} {a z : Nat} {S : g_S} (hd : g_D D A a z S H0) {x y x2 y2 : Int32} (hok : ¬ (g_ok x y ∧ g_ok x2 y2)) : Met l y_La_rename w_La_rename { frames := 8, cells := 1, slots := 6, locals := 136 } (x_PcL D A (g_Mx a z) [.ref a, .int x, .int y, .int x2, .int y2] H0) (x_Q (some (.int 1)) (fun H1 => H0.size ≤ H1.size ∧ ∀ q : Nat, q < H0.size → H1[q]? = H0[q]?)) 1 6 (x_fr (g_Mx a z) H0) := by
  refine va_MetW (cc := method_5_code) (maxL := 6) (ret := (some .int)) (hh := [(0, 9, 12, 19), (0, 9, 16, 13), (0, 9, 20, 21)]) (by decide) rfl ?_
  intro p e s m args below meth c s₁ B hml hv
  obtain ⟨rfl, hH, hK, hN, hT, hNc⟩ := hv
  obtain ⟨hx, hb, hr, htb, hown, hlocks⟩ := x_start (wd := Cond.codeWith y_La_rename method_5_code 6 (some .int) [(0, 9, 12, 19), (0, 9, 16, 13), (0, 9, 20, 21)]) B
  have htab := vx_table (x := y_La_rename) B (atoms_spec (ws := w_La_rename) B.pre _ List.mem_cons_self)
  have hl := lv_entry ([.ref a, .int x, .int y, .int x2, .int y2]) (n := 6) (Nat.le_of_ble_eq_true rfl)
  rw [lg_entry_eq]
  generalize (lg_sl ([.ref a, .int x, .int y, .int x2, .int y2]) ++ List.replicate (6 - (lg_sl ([.ref a, .int x, .int y, .int x2, .int y2])).length) Slot.unset).toArray = ls at hl ⊢
  have hl : lv_has ls 6 [(0, .ref a), (1, .int x), (2, .int y), (3, .int x2), (4, .int y2)] := hl
  rw [hH]
  have hL : ∀ q ∈ ([] : List Loc), (x_fr (g_Mx a z) H0) q.base := fun q hq => by cases hq
  obtain ⟨pa, as, bs, cs, ds, h1, h2, h3, ⟨h4, h4s⟩, ⟨h5, h5s⟩, ⟨h6, h6s⟩, ⟨h7, h7s⟩, h8, h9⟩ := id hd
  refine lv_aload_n hx hb d_La_rename_0 rfl (lv_at hl 0 rfl) ?_
  refine lv_iload_n hx hb d_La_rename_1 rfl (lv_at hl 1 rfl) ?_
  refine lv_iload_n hx hb d_La_rename_2 rfl (lv_at hl 2 rfl) ?_
  refine lv_iload_n hx hb d_La_rename_3 rfl (lv_at hl 3 rfl) ?_
  refine lv_iload hx hb d_La_rename_4 (lv_at hl 4 rfl) ?_
  refine x_catch (F := x_fr (g_Mx a z) H0) (own := "BreakingDiskLaw") (name := "java/lang/IndexOutOfBoundsException") (pre := []) (x := ⟨0, 9, 12, 19⟩) (rest' := [⟨0, 9, 16, 13⟩, ⟨0, 9, 20, 21⟩]) (x_runVT (As := [.int x, .int y, .int x2, .int y2]) (rest := []) ⟨hx, hb, hml, hown, htb⟩ (c_Bd_renameT1 l hlt0 hd hok) (x_cV 4 htb mw_425 mw_1 mw_428 mw_426 mw_427 rfl rfl (by decide +kernel) ⟨Nat.le_of_ble_eq_true rfl, Nat.le_of_ble_eq_true rfl⟩) (x_preVT hK hN hT h1 rfl) rfl rfl hl.1 rfl (lv_room (Nat.le_of_ble_eq_true rfl)) d_La_rename_6 ⟨Nat.le_of_ble_eq_true rfl, Nat.le_of_ble_eq_true rfl⟩) hL (fun q hq => Or.inr hq) hown htab rfl (by decide) (htb _ mw_324) (va_Nw.use rfl (hN.1 _ nf_335)) (fun y hy => by cases hy) (fun q9 H1 locs hP hL => ?_)
  show W _ _ _ _ _ _ _ _ _ _ _ _ _ _ _ (F0 m 12 ls [.ref q9])
  refine lv_astore (lv' := [(5, .ref q9), (0, .ref a), (1, .int x), (2, .int y), (3, .int x2), (4, .int y2)]) hx hb d_La_rename_12 hl (by decide) rfl (fun ls hl => ?_)
  refine lv_iconst (v := 1) hx hb d_La_rename_14 (by decide) ?_
  exact x_iret hx hb hr hlocks rfl hP hL (Nat.le_refl _) (Nat.le_refl _) d_La_rename_15
set_option maxHeartbeats 4000000 in
set_option maxRecDepth 100000 in
theorem c_La_renameT2 (l : Launch) (hlt0 : l.stackTraces = false) {D : va_G} {A : Nat → ClassId} {H0 : Heap} {a z : Nat} {S : g_S} (hd : g_D D A a z S H0) {x y x2 y2 : Int32} (hok : g_ok x y) (hok2 : g_ok x2 y2) (hg : g_get S.2.2.1 (x, y, S.2.1) = none) : Met l y_La_rename w_La_rename { frames := 8, cells := 2, slots := 9, locals := 138 } (x_PcL D A (g_Mx a z) [.ref a, .int x, .int y, .int x2, .int y2] H0) (x_Q (some (.int 2)) (fun H1 => H0.size ≤ H1.size ∧ ∀ q : Nat, q < H0.size → H1[q]? = H0[q]?)) 2 9 (x_fr (g_Mx a z) H0) := by
  refine va_MetW (cc := method_5_code) (maxL := 6) (ret := (some .int)) (hh := [(0, 9, 12, 19), (0, 9, 16, 13), (0, 9, 20, 21)]) (by decide) rfl ?_
  intro p e s m args below meth c s₁ B hml hv
  obtain ⟨rfl, hH, hK, hN, hT, hNc⟩ := hv
  obtain ⟨hx, hb, hr, htb, hown, hlocks⟩ := x_start (wd := Cond.codeWith y_La_rename method_5_code 6 (some .int) [(0, 9, 12, 19), (0, 9, 16, 13), (0, 9, 20, 21)]) B
  have htab := vx_table (x := y_La_rename) B (atoms_spec (ws := w_La_rename) B.pre _ List.mem_cons_self)
  have hl := lv_entry ([.ref a, .int x, .int y, .int x2, .int y2]) (n := 6) (Nat.le_of_ble_eq_true rfl)
  rw [lg_entry_eq]
  generalize (lg_sl ([.ref a, .int x, .int y, .int x2, .int y2]) ++ List.replicate (6 - (lg_sl ([.ref a, .int x, .int y, .int x2, .int y2])).length) Slot.unset).toArray = ls at hl ⊢
  have hl : lv_has ls 6 [(0, .ref a), (1, .int x), (2, .int y), (3, .int x2), (4, .int y2)] := hl
  rw [hH]
  have hL : ∀ q ∈ ([] : List Loc), (x_fr (g_Mx a z) H0) q.base := fun q hq => by cases hq
  obtain ⟨pa, as, bs, cs, ds, h1, h2, h3, ⟨h4, h4s⟩, ⟨h5, h5s⟩, ⟨h6, h6s⟩, ⟨h7, h7s⟩, h8, h9⟩ := id hd
  refine lv_aload_n hx hb d_La_rename_0 rfl (lv_at hl 0 rfl) ?_
  refine lv_iload_n hx hb d_La_rename_1 rfl (lv_at hl 1 rfl) ?_
  refine lv_iload_n hx hb d_La_rename_2 rfl (lv_at hl 2 rfl) ?_
  refine lv_iload_n hx hb d_La_rename_3 rfl (lv_at hl 3 rfl) ?_
  refine lv_iload hx hb d_La_rename_4 (lv_at hl 4 rfl) ?_
  refine x_catch (F := x_fr (g_Mx a z) H0) (own := "BreakingDiskLaw") (name := "java/lang/IllegalArgumentException") (pre := [⟨0, 9, 12, 19⟩]) (x := ⟨0, 9, 16, 13⟩) (rest' := [⟨0, 9, 20, 21⟩]) (x_runVT (As := [.int x, .int y, .int x2, .int y2]) (rest := []) ⟨hx, hb, hml, hown, htb⟩ (c_Bd_renameT2 l hlt0 hd hok hok2 hg) (x_cV 4 htb mw_425 mw_1 mw_428 mw_426 mw_427 rfl rfl (by decide +kernel) ⟨Nat.le_of_ble_eq_true rfl, Nat.le_of_ble_eq_true rfl⟩) (x_preVT hK hN hT h1 rfl) rfl rfl hl.1 rfl (lv_room (Nat.le_of_ble_eq_true rfl)) d_La_rename_6 ⟨Nat.le_of_ble_eq_true rfl, Nat.le_of_ble_eq_true rfl⟩) hL (fun q hq => Or.inr hq) hown htab rfl (by decide) (htb _ mw_227) (va_Nw.use rfl (hN.1 _ nf_234)) (by
      intro y hy
      rcases List.mem_cons.mp hy with rfl | hy
      · exact ⟨rfl, by decide, _, htb _ mw_324, hNc.2.1⟩
      cases hy) (fun q9 H1 locs hP hL => ?_)
  show W _ _ _ _ _ _ _ _ _ _ _ _ _ _ _ (F0 m 16 ls [.ref q9])
  refine lv_astore (lv' := [(5, .ref q9), (0, .ref a), (1, .int x), (2, .int y), (3, .int x2), (4, .int y2)]) hx hb d_La_rename_16 hl (by decide) rfl (fun ls hl => ?_)
  refine lv_iconst (v := 2) hx hb d_La_rename_18 (by decide) ?_
  exact x_iret hx hb hr hlocks rfl hP hL (Nat.le_refl _) (Nat.le_refl _) d_La_rename_19
set_option maxHeartbeats 4000000 in
set_option maxRecDepth 100000 in
theorem c_La_renameT3 (l : Launch) (hlt0 : l.stackTraces = false) {D : va_G} {A : Nat → ClassId} {H0 : Heap} {a z : Nat} {S : g_S} (hd : g_D D A a z S H0) {x y x2 y2 : Int32} (hok : g_ok x y) (hok2 : g_ok x2 y2) {f : g_F} (hg : g_get S.2.2.1 (x, y, S.2.1) = some f) (hge : 200 ≤ S.2.2.2.2.2.1.length) : Met l y_La_rename w_La_rename { frames := 8, cells := 2, slots := 9, locals := 136 } (x_PcL D A (g_Mx a z) [.ref a, .int x, .int y, .int x2, .int y2] H0) (x_Q (some (.int 3)) (fun H1 => H0.size ≤ H1.size ∧ ∀ q : Nat, q < H0.size → H1[q]? = H0[q]?)) 2 9 (x_fr (g_Mx a z) H0) := by
  refine va_MetW (cc := method_5_code) (maxL := 6) (ret := (some .int)) (hh := [(0, 9, 12, 19), (0, 9, 16, 13), (0, 9, 20, 21)]) (by decide) rfl ?_
  intro p e s m args below meth c s₁ B hml hv
  obtain ⟨rfl, hH, hK, hN, hT, hNc⟩ := hv
  obtain ⟨hx, hb, hr, htb, hown, hlocks⟩ := x_start (wd := Cond.codeWith y_La_rename method_5_code 6 (some .int) [(0, 9, 12, 19), (0, 9, 16, 13), (0, 9, 20, 21)]) B
  have htab := vx_table (x := y_La_rename) B (atoms_spec (ws := w_La_rename) B.pre _ List.mem_cons_self)
  have hl := lv_entry ([.ref a, .int x, .int y, .int x2, .int y2]) (n := 6) (Nat.le_of_ble_eq_true rfl)
  rw [lg_entry_eq]
  generalize (lg_sl ([.ref a, .int x, .int y, .int x2, .int y2]) ++ List.replicate (6 - (lg_sl ([.ref a, .int x, .int y, .int x2, .int y2])).length) Slot.unset).toArray = ls at hl ⊢
  have hl : lv_has ls 6 [(0, .ref a), (1, .int x), (2, .int y), (3, .int x2), (4, .int y2)] := hl
  rw [hH]
  have hL : ∀ q ∈ ([] : List Loc), (x_fr (g_Mx a z) H0) q.base := fun q hq => by cases hq
  obtain ⟨pa, as, bs, cs, ds, h1, h2, h3, ⟨h4, h4s⟩, ⟨h5, h5s⟩, ⟨h6, h6s⟩, ⟨h7, h7s⟩, h8, h9⟩ := id hd
  refine lv_aload_n hx hb d_La_rename_0 rfl (lv_at hl 0 rfl) ?_
  refine lv_iload_n hx hb d_La_rename_1 rfl (lv_at hl 1 rfl) ?_
  refine lv_iload_n hx hb d_La_rename_2 rfl (lv_at hl 2 rfl) ?_
  refine lv_iload_n hx hb d_La_rename_3 rfl (lv_at hl 3 rfl) ?_
  refine lv_iload hx hb d_La_rename_4 (lv_at hl 4 rfl) ?_
  refine x_catch (F := x_fr (g_Mx a z) H0) (own := "BreakingDiskLaw") (name := "java/lang/IllegalStateException") (pre := [⟨0, 9, 12, 19⟩, ⟨0, 9, 16, 13⟩]) (x := ⟨0, 9, 20, 21⟩) (rest' := []) (x_runVT (As := [.int x, .int y, .int x2, .int y2]) (rest := []) ⟨hx, hb, hml, hown, htb⟩ (c_Bd_renameT3 l hlt0 hd hok hok2 hg hge) (x_cV 4 htb mw_425 mw_1 mw_428 mw_426 mw_427 rfl rfl (by decide +kernel) ⟨Nat.le_of_ble_eq_true rfl, Nat.le_of_ble_eq_true rfl⟩) (x_preVT hK hN hT h1 rfl) rfl rfl hl.1 rfl (lv_room (Nat.le_of_ble_eq_true rfl)) d_La_rename_6 ⟨Nat.le_of_ble_eq_true rfl, Nat.le_of_ble_eq_true rfl⟩) hL (fun q hq => Or.inr hq) hown htab rfl (by decide) (htb _ mw_325) (va_Nw.use rfl (hN.1 _ nf_352)) (by
      intro y hy
      rcases List.mem_cons.mp hy with rfl | hy
      · exact ⟨rfl, by decide, _, htb _ mw_324, hNc.1⟩
      rcases List.mem_cons.mp hy with rfl | hy
      · exact ⟨rfl, by decide, _, htb _ mw_227, hNc.2.2⟩
      cases hy) (fun q9 H1 locs hP hL => ?_)
  show W _ _ _ _ _ _ _ _ _ _ _ _ _ _ _ (F0 m 20 ls [.ref q9])
  refine lv_astore (lv' := [(5, .ref q9), (0, .ref a), (1, .int x), (2, .int y), (3, .int x2), (4, .int y2)]) hx hb d_La_rename_20 hl (by decide) rfl (fun ls hl => ?_)
  refine lv_iconst (v := 3) hx hb d_La_rename_22 (by decide) ?_
  exact x_iret hx hb hr hlocks rfl hP hL (Nat.le_refl _) (Nat.le_refl _) d_La_rename_23
