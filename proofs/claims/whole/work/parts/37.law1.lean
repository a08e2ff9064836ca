/-! THE CLAIM OUT OF ONE WALK OF THE LAW'S BODY. Your part is whole_start (and what it stands on); all else here is the same for every law, but numbers. -/
def R_law : String := "BreakingDiskLaw"
def lw_P (b : Addr) (xs : List Int32) (args : Array Value) (s : State) : Prop := args = #[.ref b] ∧ s.IntsAt b xs ∧ xs.length ≤ 2560 ∧ (Jvm.Cond.and given_1 narrow_1).before args s = true
def lw_Q (_ : Array Value) (s : State) (o : Outcome) (t : State) : Prop := o = .returned (some (.int 1)) ∧ Framed s o t [] 601024 7293034
def lw_Z (below : List Frame) (a : Array Value) (s : State) : State → Prop := fun t => ∃ o, t.status = .running ∧ Ended t below o ∧ lw_Q a s o t
/-- the law's own end, with 1 on the stack, nothing written that was there before, its room as the claim has it -/
theorem lw_ret {p : Program} {l : Launch} {e : Env} {s : State} {m : MethodId} {below : List Frame} {meth : Method} {c : Code} {b : Nat} (hx : p.tables.exec = Jvm.exec) (hb : c.code = code) (hr : meth.sig.returnType = ret) (hlocks : meth.locks = false) {pc : Nat} {H : Heap} {ls : Array Slot} (hdg : decode code pc = .ok (.ireturn, 1)) : W p l e room_1 s m #[Value.ref b] below meth c H [] 601024 7293034 (lw_Z below #[Value.ref b] s) (F0 m pc ls [.int 1]) := by
  intro T hT X
  obtain ⟨fs, hret, hrun, hended, hW, hframe⟩ := X.leave (v := some (.int 1)) (hlocks := hlocks) (fun h => by rw [hr] at h; cases h)
  have hmeth' : T.vm.method? m = some meth := X.method'
  refine ⟨T.setFrames fs, ?_, .returned (some (.int 1)), hrun, hended, rfl, ⟨_, rfl⟩, hW, hframe⟩
  jvm_step X.here [X.here.top, hx, hb, hdg, hmeth', hr, ret, narrow_b1]
  (try refine ⟨rfl, ?_⟩); (try refine ⟨rfl, ?_⟩)
  first | (intro acts; rw [hret _ acts rfl rfl rfl]) | rw [hret _ _ rfl rfl rfl]
  exact Steps.refl _
/-- what holds at the law's entry: the machine, the code, the tables' words (any of lw_tbl by 'hts w (by decide +kernel)'), the script of L ints xs at the cell b, what the Statement gives of the start (any of its parts by flat_of_before) -/
def lw_At (p : Program) (s : State) (m : MethodId) (meth : Method) (c : Code) (b L : Nat) (xs : Nat → Int32) : Prop :=
  p.tables.exec = Jvm.exec ∧ c.code = code ∧ meth.sig.returnType = ret ∧ c.maxLocals = 7 ∧ s.vm.findClass R_law = some m.cls ∧ (∀ w ∈ lw_tbl, w.before #[Value.ref b] s = true) ∧ va_X b L xs s s.heap ∧ b < s.heap.size ∧ meth.locks = false ∧ (Jvm.Cond.and given_1 narrow_1).before #[Value.ref b] s = true
/-! THE LAW'S LOOP -/
section LWA
variable {p : Program} {l : Launch} {e : Env} {R : Room} {s : State} {m : MethodId} {args : Array Value} {below : List Frame} {meth : Method} {c : Code} {H : Heap} {locs : List Loc} {cells slots : Nat} {Q : State → Prop}
variable {cc : ByteArray} {pc : Nat} {ls : Array Slot} {rest : List Value}
theorem x_lcmpE (hexec : p.tables.exec = Jvm.exec) (hb : c.code = cc) {x : Int64} (hdg : decode cc pc = .ok (.lcmp, 1))
    (k : W p l e R s m args below meth c H locs cells slots Q (F0 m (pc + 1) ls (.int 0 :: rest))) : W p l e R s m args below meth c H locs cells slots Q (F0 m pc ls (.long x :: .long x :: rest)) := by
  intro T hT X
  obtain ⟨t, a, b⟩ := k T hT X
  refine ⟨t, ?_, b⟩
  have hx : ¬ x < x := Int64.lt_irrefl
  jvm_step X.here [X.here.top, hexec, hb, hdg, hx]
  exact a
theorem x_sld (hexec : p.tables.exec = Jvm.exec) (hb : c.code = cc) {b L i : Nat} {xs : Nat → Int32} (hX : va_X b L xs s H) (hi : i < L) (hL : L < 2 ^ 31) (hdg : decode cc pc = .ok (.iaload, 1))
    (kk : W p l e R s m args below meth c H locs cells slots Q (F0 m (pc + 1) ls (.int (xs i) :: rest))) : W p l e R s m args below meth c H locs cells slots Q (F0 m pc ls (.int (nI i) :: .ref b :: rest)) := by
  obtain ⟨scr, h1, h2, h3, h4, h5⟩ := hX
  exact W.iald (v := .int (xs i)) hexec hb h1 h2 h3 (by rw [h4]; exact vp_in_nI hi hL) (by rw [nI_clamp (by omega)]; exact h5 _ hi) rfl rfl hdg kk
theorem x_slen (hexec : p.tables.exec = Jvm.exec) (hb : c.code = cc) {b L : Nat} {xs : Nat → Int32} (hX : va_X b L xs s H) (hdg : decode cc pc = .ok (.arraylength, 1))
    (kk : W p l e R s m args below meth c H locs cells slots Q (F0 m (pc + 1) ls (.int (nI L) :: rest))) : W p l e R s m args below meth c H locs cells slots Q (F0 m pc ls (.ref b :: rest)) := by
  obtain ⟨scr, h1, h2, h3, h4, h5⟩ := hX
  exact W.alen (n := nI L) hexec hb h1 h2 (by rw [h4] <;> rfl) rfl rfl hdg kk
theorem x_cSW {own : String} {index : Nat} {y : MethodName} {bytes : ByteArray} {maxL : Nat} {ret : Option FieldType} {hh : List (Nat × Nat × Nat × Nat)} {rm : Room} {mc ms : Nat} (n : Nat) (ht : ∀ w ∈ x_tb, w.before args s = true) (hl : Cond.methodLink own index y ∈ x_tb) (hi : Cond.initialized y.cls ∈ x_tb) (hc : Cond.codeWith y bytes maxL ret hh ∈ x_tb) (hm : Cond.static y ∈ x_tb) (hrc : rm.cells = mc) (hrs : rm.slots = ms)
    (hd : y.cls ≠ "java/lang/invoke/MethodHandle" ∧ y.cls ≠ "java/lang/invoke/VarHandle" ∧ (parseMethodDescriptor y.desc).map (fun d => d.parameters.length) = some n) (hR : rm.frames + 1 ≤ R.frames ∧ 8 + (maxL + 11) + rm.locals ≤ R.locals) : vx_CSW R s args own index y bytes maxL ret hh (Cond.codeWith y bytes maxL ret hh :: x_tb) rm mc ms n :=
  ⟨⟨hrc, hrs, hR.1, hR.2, pay_in ht (x_goodT hc), List.mem_cons_self⟩, ht _ hc, ht _ hi, ⟨hd.1, hd.2.1⟩, fun sig h => by
    have h2 := hd.2.2
    rw [h] at h2
    exact (Option.some.inj h2).symm, ht _ hl, ht _ hm⟩
theorem x_loopC {σ : Type} (g : σ → JFrame) (Hh : σ → Heap) (Cc Ss : σ → Nat) (I : σ → Prop) (μ : σ → Nat) {s0 : σ} (h0 : I s0)
    (step : ∀ z, I z → (∀ z', I z' → μ z' < μ z → W p l e R s m args below meth c (Hh z') [] (Cc z') (Ss z') Q (g z')) → W p l e R s m args below meth c (Hh z) [] (Cc z) (Ss z) Q (g z)) : W p l e R s m args below meth c (Hh s0) [] (Cc s0) (Ss s0) Q (g s0) := by
  have key : ∀ (n : Nat) (z : σ), I z → μ z < n → W p l e R s m args below meth c (Hh z) [] (Cc z) (Ss z) Q (g z) := by
    intro n
    induction n with
    | zero => intro z _ h; exact absurd h (Nat.not_lt_zero _)
    | succ n ih => intro z hz hn; exact step z hz (fun z' hz' hm => ih z' hz' (by omega))
  exact key (μ s0 + 1) s0 h0 (Nat.lt_succ_self _)
end LWA
theorem m_M.kept {D : va_G} {A : Nat → ClassId} {b : Nat} {th : Int32} {M : m_S} {H H1 : Heap} (h : m_M D A b th M H) (hq : ∀ q : Nat, b ≤ q → q ≤ b + 15 → H1[q]? = H[q]?) : m_M D A b th M H1 := by
  obtain ⟨G, ho, hR, hV⟩ := h
  exact ⟨G, ho.kept (hq b (Nat.le_refl _) (by omega)), fun k h1 h2 => (hR k h1 h2).kept (hq (b + k) (by omega) (by omega)), hV⟩
abbrev lw_out (D : va_G) (A : Nat → ClassId) (z : Nat) (fo : Nat → Int64) (H : Heap) : Prop := va_at D x_cl (z + 28, .inl (A 4, 1, .inr (.inl fo))) H
def lw_C (p : Program) (s : State) (m : MethodId) (meth : Method) (c : Code) (bb L : Nat) (D : va_G) (A : Nat → ClassId) (a : Nat) : Prop :=
  p.tables.exec = Jvm.exec ∧ c.code = code ∧ meth.sig.returnType = ret ∧ c.maxLocals = 7 ∧ s.vm.findClass "BreakingDiskLaw" = some m.cls ∧ (∀ w ∈ x_tb, w.before #[Value.ref bb] s = true) ∧ va_K D x_cl (x_tys A) s ∧ x_E s ∧ x_N s ∧ meth.locks = false ∧ bb < s.heap.size ∧ s.heap.size ≤ a ∧ L ≤ 2560
def lw_I (D : va_G) (A : Nat → ClassId) (a z bb L : Nat) (xs : Nat → Int32) (s : State) (S : g_S) (M : m_S) (H : Heap) : Prop :=
  g_D D A a z S H ∧ (∃ th, m_M D A (z + 12) th M H) ∧ (∃ fo, lw_out D A z fo H) ∧ va_X bb L xs s H ∧ x_T (g_Mx a z) s H ∧ j_J S M
section LWK
variable {D : va_G} {A : Nat → ClassId} {a z bb L : Nat} {xs : Nat → Int32} {s : State} {S : g_S} {M : m_S} {th : Int32} {fo : Nat → Int64} {H H1 : Heap}
theorem lw_keepC (hd : g_D D A a z S H) (hk : g_K (g_M a z) H H1) (hm : m_M D A (z + 12) th M H) (ho : lw_out D A z fo H) (hX : va_X bb L xs s H) (hb : bb < a) (hT : x_T (g_Mx a z) s H) : m_M D A (z + 12) th M H1 ∧ lw_out D A z fo H1 ∧ va_X bb L xs s H1 ∧ x_T (g_Mx a z) s H1 := by
  obtain ⟨h1, h2⟩ := hd.lt
  refine ⟨hm.kept (fun q a b => hk.2 q (by omega) (fun e => e.elim (fun e => by omega) (fun e => by omega))), ho.kept (hk.2 _ (by omega) (fun e => e.elim (fun e => by omega) (fun e => by omega))), hX.kept (hk.2 _ (by omega) (fun e => e.elim (fun e => by omega) (fun e => by omega))), hT.kept hk⟩
theorem lw_keepO (hd : g_D D A a z S H) (hk : g_K (fun q => g_M a z q ∨ q = z + 28) H H1) (hm : m_M D A (z + 12) th M H) (hX : va_X bb L xs s H) (hb : bb < a) (hT : x_T (g_Mx a z) s H) : m_M D A (z + 12) th M H1 ∧ va_X bb L xs s H1 ∧ x_T (g_Mx a z) s H1 := by
  obtain ⟨h1, h2⟩ := hd.lt
  have hn : ∀ q, ¬ q = a → ¬ (z ≤ q ∧ q < z + 10) → ¬ q = z + 28 → ¬ (fun q => g_M a z q ∨ q = z + 28) q := fun q h1 h2 h3 e => e.elim (fun e => e.elim h1 h2) h3
  refine ⟨hm.kept (fun q a b => hk.2 q (by omega) (hn q (by omega) (by omega) (by omega))), hX.kept (hk.2 _ (by omega) (hn _ (by omega) (by omega) (by omega))), hT.kept hk (fun q e => e.elim (fun e => e.elim Or.inl (fun e => Or.inr (Or.inl e))) (fun e => Or.inr (Or.inr ⟨by omega, by omega⟩)))⟩
theorem lw_keepM (hd : g_D D A a z S H) (hk : m_K (z + 12) H H1) (ho : lw_out D A z fo H) (hX : va_X bb L xs s H) (hb : bb < a) (hT : x_T (g_Mx a z) s H) : g_D D A a z S H1 ∧ lw_out D A z fo H1 ∧ va_X bb L xs s H1 ∧ x_T (g_Mx a z) s H1 := by
  obtain ⟨h1, h2⟩ := hd.lt
  have hK : g_K (fun q => z + 12 ≤ q ∧ q < z + 29) H H1 := ⟨Nat.le_of_eq hk.1.symm, fun q _ h => hk.2 q (by omega)⟩
  exact ⟨hd.zone hk.1 (fun q h => hk.2 q (by omega)), ho.kept (hk.2 _ (by omega)), hX.kept (hk.2 _ (by omega)), hT.kept hK (fun q h => Or.inr (Or.inr h))⟩
theorem lw_fC (hd : g_D D A a z S H) (has : s.heap.size ≤ a) : ∀ q, x_fr (g_Mx a z) H q → s.heap.size ≤ q := fun q hq => by
  obtain ⟨h1, h2⟩ := hd.lt
  rcases hq with (e | e | e) | e <;> omega
theorem lw_fM (hd : g_D D A a z S H) (has : s.heap.size ≤ a) : ∀ q, m_fq (z + 12) q → s.heap.size ≤ q := fun q hq => by
  obtain ⟨h1, h2⟩ := hd.lt
  have := hq.1
  omega
end LWK
theorem j_J.some {S : g_S} {M : m_S} (h : j_J S M) {x y : Int32} {f : g_F} (hg : g_get S.2.2.1 (x, y, S.2.1) = some f) : (∃ i, g_find M.2.2.1 (x, y, M.2.1) = some i) ∧ f.1 = (x, y, S.2.1) := by
  have h1 := h.get x y
  rw [hg] at h1
  obtain ⟨i, h2, -⟩ := g_get_ex h1
  exact ⟨⟨i, h2⟩, (get_name h.now.1.2.2 (n := (x, y, S.2.1)) h.okn hg).2⟩
theorem j_J.none {S : g_S} {M : m_S} (h : j_J S M) {x y : Int32} (hg : g_get S.2.2.1 (x, y, S.2.1) = none) : g_find M.2.2.1 (x, y, M.2.1) = none := by
  have h1 := h.get x y
  rw [hg] at h1
  exact g_get_no h1
theorem j_J.lens {S : g_S} {M : m_S} (h : j_J S M) : M.2.2.2.2.1.length = S.2.2.2.2.2.1.length ∧ M.2.2.1.length = S.2.2.1.length := ⟨h.2.2.2.2.1.1.symm, h.now.1.1.length_eq.symm⟩
theorem g_putok {x : Int32} {n : Nat} (hn : n ≤ 400) (h : ¬ (x < 0 ∨ 8 < x ∨ nI (400 - n) < x)) : ∃ j : Nat, x = nI j ∧ j ≤ 8 ∧ n + j ≤ 400 := by
  obtain ⟨j, hj, rfl⟩ := nI_of (fun q => h (Or.inl q))
  have h1 : j ≤ 8 := Nat.le_of_not_lt fun q => h (Or.inr (Or.inl (nI_lt (a := 8) q hj)))
  have h2 : j ≤ 400 - n := Nat.le_of_not_lt fun q => h (Or.inr (Or.inr (nI_lt q hj)))
  exact ⟨j, rfl, h1, by omega⟩
set_option maxHeartbeats 4000000 in
set_option maxRecDepth 100000 in
theorem lw_0 {p : Program} {l : Launch} {e : Env} {s : State} {m : MethodId} {below : List Frame} {meth : Method} {c : Code} {bb L : Nat} {D : va_G} {A : Nat → ClassId} {a z : Nat} {xs : Nat → Int32} (hlt0 : l.stackTraces = false) (C : lw_C p s m meth c bb L D A a) {t i : Nat} (hi : i + 5 ≤ L) (ht : i = 5 * t) {S : g_S} {M : m_S} {H : Heap} {ls : Array Slot} (I : lw_I D A a z bb L xs s S M H) (hl : lv_has ls 7 [(4, .int (nI i)), (0, .ref bb), (1, .ref a), (2, .ref (z + 12)), (3, .ref (z + 28))])
    (next : ∀ (S : g_S) (M : m_S) (H : Heap) (ls : Array Slot), lw_I D A a z bb L xs s S M H → lv_has ls 7 [(4, .int (nI i)), (0, .ref bb), (1, .ref a), (2, .ref (z + 12)), (3, .ref (z + 28))] → W p l e room_1 s m #[Value.ref bb] below meth c H [] (30 + 6 * (t + 1)) (170000 + 420 * (t + 1)) (lw_Z below #[Value.ref bb] s) (F0 m 623 ls [])) : W p l e room_1 s m #[Value.ref bb] below meth c H [] (30 + 6 * t) (170000 + 420 * t) (lw_Z below #[Value.ref bb] s) (F0 m 100 ls []) := by
  obtain ⟨hx, hb, hr, hml, hown, htb, hK, hN, hNc, hlocks, hbl, has, hLm⟩ := C
  obtain ⟨hd, ⟨th, hm⟩, ⟨fo, hout⟩, hX, hT, hJ⟩ := I
  obtain ⟨haz, hzs⟩ := hd.lt
  obtain ⟨pa, as, bs, cs, ds, h1, -⟩ := id hd
  obtain ⟨G, ho, -, -⟩ := id hm
  have hL : ∀ q ∈ ([] : List Loc), (fun q : Nat => s.heap.size ≤ q) q.base := fun q hq => by cases hq
  have w11 := hJ.1.2.1
  obtain ⟨v, hv⟩ : ∃ v : Int64, ((xs (i + 1)).toInt64 <<< ((32 : Int32).toInt64 &&& 63)) ||| ((xs (i + 2)).toInt64 &&& 4294967295) = v := ⟨_, rfl⟩
  refine lv_aload_n hx hb d_La_law_100 rfl (lv_at hl 2 rfl) ?_
  refine lv_aload_n hx hb d_La_law_101 rfl (lv_at hl 1 rfl) ?_
  refine lv_iload hx hb d_La_law_102 (lv_at hl 0 rfl) ?_
  refine lv_iconst (v := 1) hx hb d_La_law_104 (by decide) ?_
  refine lv_iadd hx hb d_La_law_105 ?_
  refine x_top (y := nI (i + 1)) (nI_add i 1) ?_
  refine x_sld hx hb hX (i := i + 1) (by omega) (by omega) d_La_law_106 ?_
  refine lv_i2l (v := (xs (i + 1)).toInt64) hx hb d_La_law_107 rfl ?_
  refine lv_bipush (v := 32) hx hb d_La_law_108 (by decide) ?_
  refine lv_lshl (v := (xs (i + 1)).toInt64 <<< ((32 : Int32).toInt64 &&& 63)) hx hb d_La_law_110 rfl ?_
  refine lv_aload_n hx hb d_La_law_111 rfl (lv_at hl 1 rfl) ?_
  refine lv_iload hx hb d_La_law_112 (lv_at hl 0 rfl) ?_
  refine lv_iconst (v := 2) hx hb d_La_law_114 (by decide) ?_
  refine lv_iadd hx hb d_La_law_115 ?_
  refine x_top (y := nI (i + 2)) (nI_add i 2) ?_
  refine x_sld hx hb hX (i := i + 2) (by omega) (by omega) d_La_law_116 ?_
  refine lv_i2l (v := (xs (i + 2)).toInt64) hx hb d_La_law_117 rfl ?_
  refine lv_ldc2 (v := 4294967295) hx hb hown (htb _ mw_637) d_La_law_118 ?_
  refine lv_land hx hb d_La_law_121 ?_
  refine lv_lor hx hb d_La_law_122 ?_
  show W _ _ _ _ _ _ _ _ _ _ _ _ _ _ _ (F0 m 123 ls [.long (((xs (i + 1)).toInt64 <<< ((32 : Int32).toInt64 &&& 63)) ||| ((xs (i + 2)).toInt64 &&& 4294967295)), .ref a])
  rw [hv]
  refine lv_aload_n hx hb d_La_law_123 rfl (lv_at hl 1 rfl) ?_
  refine lv_iload hx hb d_La_law_124 (lv_at hl 0 rfl) ?_
  refine lv_iconst (v := 3) hx hb d_La_law_126 (by decide) ?_
  refine lv_iadd hx hb d_La_law_127 ?_
  refine x_top (y := nI (i + 3)) (nI_add i 3) ?_
  refine x_sld hx hb hX (i := i + 3) (by omega) (by omega) d_La_law_128 ?_
  by_cases hbad : xs (i + 3) < 0 ∨ 8 < xs (i + 3) ∨ nI (400 - S.1.length) < xs (i + 3)
  · refine x_callP (va_runV (As := [.long v, .int (xs (i + 3))]) (rest := []) ⟨hx, hb, hml, hown, htb⟩ (c_Bd_putN l hd v hbad) (x_cV 2 htb mw_107 mw_1 mw_110 mw_108 mw_109 rfl rfl (by decide +kernel) ⟨Nat.le_of_ble_eq_true rfl, Nat.le_of_ble_eq_true rfl⟩) (x_preV hK hN h1 rfl) rfl rfl hl.1 rfl (lv_room (Nat.le_of_ble_eq_true rfl)) d_La_law_129 ⟨(by show _ ≤ 601024; omega), (by show _ ≤ 7293034; omega)⟩) ?_
    refine W.eq (g2 := F0 m 132 ls [.int 0]) rfl ?_
    refine lv_aload_n hx hb d_La_law_132 rfl (lv_at hl 3 rfl) ?_
    refine lv_aload_n hx hb d_La_law_133 rfl (lv_at hl 1 rfl) ?_
    refine lv_iload hx hb d_La_law_134 (lv_at hl 0 rfl) ?_
    refine lv_iconst (v := 1) hx hb d_La_law_136 (by decide) ?_
    refine lv_iadd hx hb d_La_law_137 ?_
    refine x_top (y := nI (i + 1)) (nI_add i 1) ?_
    refine x_sld hx hb hX (i := i + 1) (by omega) (by omega) d_La_law_138 ?_
    refine lv_i2l (v := (xs (i + 1)).toInt64) hx hb d_La_law_139 rfl ?_
    refine lv_bipush (v := 32) hx hb d_La_law_140 (by decide) ?_
    refine lv_lshl (v := (xs (i + 1)).toInt64 <<< ((32 : Int32).toInt64 &&& 63)) hx hb d_La_law_142 rfl ?_
    refine lv_aload_n hx hb d_La_law_143 rfl (lv_at hl 1 rfl) ?_
    refine lv_iload hx hb d_La_law_144 (lv_at hl 0 rfl) ?_
    refine lv_iconst (v := 2) hx hb d_La_law_146 (by decide) ?_
    refine lv_iadd hx hb d_La_law_147 ?_
    refine x_top (y := nI (i + 2)) (nI_add i 2) ?_
    refine x_sld hx hb hX (i := i + 2) (by omega) (by omega) d_La_law_148 ?_
    refine lv_i2l (v := (xs (i + 2)).toInt64) hx hb d_La_law_149 rfl ?_
    refine lv_ldc2 (v := 4294967295) hx hb hown (htb _ mw_637) d_La_law_150 ?_
    refine lv_land hx hb d_La_law_153 ?_
    refine lv_lor hx hb d_La_law_154 ?_
    show W _ _ _ _ _ _ _ _ _ _ _ _ _ _ _ (F0 m 155 ls [.long (((xs (i + 1)).toInt64 <<< ((32 : Int32).toInt64 &&& 63)) ||| ((xs (i + 2)).toInt64 &&& 4294967295)), .ref (z + 12), .int 0])
    rw [hv]
    refine lv_aload_n hx hb d_La_law_155 rfl (lv_at hl 1 rfl) ?_
    refine lv_iload hx hb d_La_law_156 (lv_at hl 0 rfl) ?_
    refine lv_iconst (v := 3) hx hb d_La_law_158 (by decide) ?_
    refine lv_iadd hx hb d_La_law_159 ?_
    refine x_top (y := nI (i + 3)) (nI_add i 3) ?_
    refine x_sld hx hb hX (i := i + 3) (by omega) (by omega) d_La_law_160 ?_
    refine x_call (F := fun q : Nat => s.heap.size ≤ q) (va_runV (As := [.long v, .int (xs (i + 3))]) (rest := [.int 0]) ⟨hx, hb, hml, hown, htb⟩ (c_Mo_putN l hm v (x := xs (i + 3)) (by rw [hJ.1.1]; exact hbad)) (x_cV 2 htb mw_538 mw_6 mw_541 mw_539 mw_540 rfl rfl (by decide +kernel) ⟨Nat.le_of_ble_eq_true rfl, Nat.le_of_ble_eq_true rfl⟩) (x_preV hK hN ho rfl) rfl rfl hl.1 rfl (lv_room (Nat.le_of_ble_eq_true rfl)) d_La_law_161 ⟨(by show _ ≤ 601024; omega), (by show _ ≤ 7293034; omega)⟩) hL (lw_fM hd has) (fun H1 locs hP hL => ?_)
    refine W.eq (g2 := F0 m 164 ls [.int 0, .int 0]) rfl ?_
    refine va_forget hL ?_
    clear hL
    have hL : ∀ q ∈ ([] : List Loc), (fun q : Nat => s.heap.size ≤ q) q.base := fun q hq => by cases hq
    obtain ⟨hm, k2⟩ := hP
    obtain ⟨hd, hout, hX, hT⟩ := lw_keepM hd k2 hout hX (by omega) hT
    obtain ⟨G, ho, -, -⟩ := id hm
    refine lv_icmp_eq (tgt := 623) hx hb d_La_law_164 (by decide) (fun _ => ?_) (fun c9 => absurd rfl c9)
    exact W.widen (by omega) (by omega) (next _ _ _ _ ⟨hd, ⟨_, hm⟩, ⟨_, hout⟩, hX, hT, hJ⟩ (lv_sub hl [0, 1, 2, 3, 4] rfl))
  · obtain ⟨n, hn, hn8, hn4⟩ := g_putok w11 hbad
    refine x_top (y := nI n) (hn) ?_
    refine x_call (F := fun q : Nat => s.heap.size ≤ q) (va_runV (As := [.long v, .int (nI n)]) (rest := []) ⟨hx, hb, hml, hown, htb⟩ (c_Bd_put l hd v hn8 hn4) (x_cV 2 htb mw_107 mw_1 mw_110 mw_108 mw_109 rfl rfl (by decide +kernel) ⟨Nat.le_of_ble_eq_true rfl, Nat.le_of_ble_eq_true rfl⟩) (x_preV hK hN h1 rfl) rfl rfl hl.1 rfl (lv_room (Nat.le_of_ble_eq_true rfl)) d_La_law_129 ⟨(by show _ ≤ 601024; omega), (by show _ ≤ 7293034; omega)⟩) hL (lw_fC hd has) (fun H1 locs hP hL => ?_)
    refine W.eq (g2 := F0 m 132 ls [.int 1]) rfl ?_
    refine va_forget hL ?_
    clear hL
    have hL : ∀ q ∈ ([] : List Loc), (fun q : Nat => s.heap.size ≤ q) q.base := fun q hq => by cases hq
    obtain ⟨hd1, k1⟩ := hP
    obtain ⟨hm, hout, hX, hT⟩ := lw_keepC hd k1 hm hout hX (by omega) hT
    have hd := hd1
    obtain ⟨pa, as, bs, cs, ds, h1, -⟩ := id hd
    obtain ⟨G, ho, -, -⟩ := id hm
    refine lv_aload_n hx hb d_La_law_132 rfl (lv_at hl 3 rfl) ?_
    refine lv_aload_n hx hb d_La_law_133 rfl (lv_at hl 1 rfl) ?_
    refine lv_iload hx hb d_La_law_134 (lv_at hl 0 rfl) ?_
    refine lv_iconst (v := 1) hx hb d_La_law_136 (by decide) ?_
    refine lv_iadd hx hb d_La_law_137 ?_
    refine x_top (y := nI (i + 1)) (nI_add i 1) ?_
    refine x_sld hx hb hX (i := i + 1) (by omega) (by omega) d_La_law_138 ?_
    refine lv_i2l (v := (xs (i + 1)).toInt64) hx hb d_La_law_139 rfl ?_
    refine lv_bipush (v := 32) hx hb d_La_law_140 (by decide) ?_
    refine lv_lshl (v := (xs (i + 1)).toInt64 <<< ((32 : Int32).toInt64 &&& 63)) hx hb d_La_law_142 rfl ?_
    refine lv_aload_n hx hb d_La_law_143 rfl (lv_at hl 1 rfl) ?_
    refine lv_iload hx hb d_La_law_144 (lv_at hl 0 rfl) ?_
    refine lv_iconst (v := 2) hx hb d_La_law_146 (by decide) ?_
    refine lv_iadd hx hb d_La_law_147 ?_
    refine x_top (y := nI (i + 2)) (nI_add i 2) ?_
    refine x_sld hx hb hX (i := i + 2) (by omega) (by omega) d_La_law_148 ?_
    refine lv_i2l (v := (xs (i + 2)).toInt64) hx hb d_La_law_149 rfl ?_
    refine lv_ldc2 (v := 4294967295) hx hb hown (htb _ mw_637) d_La_law_150 ?_
    refine lv_land hx hb d_La_law_153 ?_
    refine lv_lor hx hb d_La_law_154 ?_
    show W _ _ _ _ _ _ _ _ _ _ _ _ _ _ _ (F0 m 155 ls [.long (((xs (i + 1)).toInt64 <<< ((32 : Int32).toInt64 &&& 63)) ||| ((xs (i + 2)).toInt64 &&& 4294967295)), .ref (z + 12), .int 1])
    rw [hv]
    refine lv_aload_n hx hb d_La_law_155 rfl (lv_at hl 1 rfl) ?_
    refine lv_iload hx hb d_La_law_156 (lv_at hl 0 rfl) ?_
    refine lv_iconst (v := 3) hx hb d_La_law_158 (by decide) ?_
    refine lv_iadd hx hb d_La_law_159 ?_
    refine x_top (y := nI (i + 3)) (nI_add i 3) ?_
    refine x_sld hx hb hX (i := i + 3) (by omega) (by omega) d_La_law_160 ?_
    refine x_top (y := nI n) (hn) ?_
    refine x_call (F := fun q : Nat => s.heap.size ≤ q) (va_runV (As := [.long v, .int (nI n)]) (rest := [.int 1]) ⟨hx, hb, hml, hown, htb⟩ (c_Mo_put l hm v hn8 (by rw [hJ.1.1]; exact hn4)) (x_cV 2 htb mw_538 mw_6 mw_541 mw_539 mw_540 rfl rfl (by decide +kernel) ⟨Nat.le_of_ble_eq_true rfl, Nat.le_of_ble_eq_true rfl⟩) (x_preV hK hN ho rfl) rfl rfl hl.1 rfl (lv_room (Nat.le_of_ble_eq_true rfl)) d_La_law_161 ⟨(by show _ ≤ 601024; omega), (by show _ ≤ 7293034; omega)⟩) hL (lw_fM hd has) (fun H2 locs hP hL => ?_)
    refine W.eq (g2 := F0 m 164 ls [.int 1, .int 1]) rfl ?_
    refine va_forget hL ?_
    clear hL
    have hL : ∀ q ∈ ([] : List Loc), (fun q : Nat => s.heap.size ≤ q) q.base := fun q hq => by cases hq
    obtain ⟨hm, k2⟩ := hP
    obtain ⟨hd, hout, hX, hT⟩ := lw_keepM hd k2 hout hX (by omega) hT
    obtain ⟨G, ho, -, -⟩ := id hm
    refine lv_icmp_eq (tgt := 623) hx hb d_La_law_164 (by decide) (fun _ => ?_) (fun c9 => absurd rfl c9)
    have hJ2 := hJ.put (us := S.1 ++ g_puts v n 0) (by rw [List.length_append, g_puts_len]; omega) (fun u hu => (List.mem_append.mp hu).elim (hJ.1.2.2 u) (g_puts_lt u))
    rw [hJ.1.1] at hm
    exact W.widen (by omega) (by omega) (next _ _ _ _ ⟨hd, ⟨_, hm⟩, ⟨_, hout⟩, hX, hT, hJ2⟩ (lv_sub hl [0, 1, 2, 3, 4] rfl))
set_option maxHeartbeats 4000000 in
set_option maxRecDepth 100000 in
theorem lw_1 {p : Program} {l : Launch} {e : Env} {s : State} {m : MethodId} {below : List Frame} {meth : Method} {c : Code} {bb L : Nat} {D : va_G} {A : Nat → ClassId} {a z : Nat} {xs : Nat → Int32} (hlt0 : l.stackTraces = false) (C : lw_C p s m meth c bb L D A a) {t i : Nat} (hi : i + 5 ≤ L) (ht : i = 5 * t) {S : g_S} {M : m_S} {H : Heap} {ls : Array Slot} (I : lw_I D A a z bb L xs s S M H) (hl : lv_has ls 7 [(4, .int (nI i)), (0, .ref bb), (1, .ref a), (2, .ref (z + 12)), (3, .ref (z + 28))])
    (next : ∀ (S : g_S) (M : m_S) (H : Heap) (ls : Array Slot), lw_I D A a z bb L xs s S M H → lv_has ls 7 [(4, .int (nI i)), (0, .ref bb), (1, .ref a), (2, .ref (z + 12)), (3, .ref (z + 28))] → W p l e room_1 s m #[Value.ref bb] below meth c H [] (30 + 6 * (t + 1)) (170000 + 420 * (t + 1)) (lw_Z below #[Value.ref bb] s) (F0 m 623 ls [])) : W p l e room_1 s m #[Value.ref bb] below meth c H [] (30 + 6 * t) (170000 + 420 * t) (lw_Z below #[Value.ref bb] s) (F0 m 169 ls []) := by
  obtain ⟨hx, hb, hr, hml, hown, htb, hK, hN, hNc, hlocks, hbl, has, hLm⟩ := C
  obtain ⟨hd, ⟨th, hm⟩, ⟨fo, hout⟩, hX, hT, hJ⟩ := I
  obtain ⟨haz, hzs⟩ := hd.lt
  obtain ⟨pa, as, bs, cs, ds, h1, -⟩ := id hd
  obtain ⟨G, ho, -, -⟩ := id hm
  have hL : ∀ q ∈ ([] : List Loc), (fun q : Nat => s.heap.size ≤ q) q.base := fun q hq => by cases hq
  have w11 := hJ.1.2.1
  refine lv_aload_n hx hb d_La_law_169 rfl (lv_at hl 2 rfl) ?_
  refine lv_aload_n hx hb d_La_law_170 rfl (lv_at hl 4 rfl) ?_
  by_cases hlen : S.1.length ≤ 100
  · refine x_call (F := fun q : Nat => s.heap.size ≤ q) (vx_runSW (As := [.ref a, .ref (z + 28)]) (rest := []) ⟨hx, hb, hml, hown, htb⟩ (c_La_path l hd hout hlen) (x_cSW 2 htb mw_224 mw_0 mw_226 mw_225 rfl rfl (by decide +kernel) ⟨Nat.le_of_ble_eq_true rfl, Nat.le_of_ble_eq_true rfl⟩) (x_preSL hK hN hT hNc) rfl rfl hl.1 rfl (lv_room (Nat.le_of_ble_eq_true rfl)) d_La_law_171 ⟨(by show _ ≤ 601024; omega), (by show _ ≤ 7293034; omega)⟩) hL (lw_fC hd has) (fun H1 locs hP hL => ?_)
    refine W.eq (g2 := F0 m 174 ls [.int 0]) rfl ?_
    refine va_forget hL ?_
    clear hL
    have hL : ∀ q ∈ ([] : List Loc), (fun q : Nat => s.heap.size ≤ q) q.base := fun q hq => by cases hq
    obtain ⟨hd1, ⟨fo1, hout, hfo⟩, k1⟩ := hP
    obtain ⟨hm, hX, hT⟩ := lw_keepO hd k1 hm hX (by omega) hT
    have hd := hd1
    obtain ⟨pa, as, bs, cs, ds, h1, -⟩ := id hd
    obtain ⟨G, ho, -, -⟩ := id hm
    refine lv_istore (lv' := [(5, .int 0), (4, .int (nI i)), (0, .ref bb), (1, .ref a), (2, .ref (z + 12)), (3, .ref (z + 28))]) hx hb d_La_law_174 hl (by decide) rfl (fun ls hl => ?_)
    refine lv_aload_n hx hb d_La_law_176 rfl (lv_at hl 4 rfl) ?_
    refine x_call (F := fun q : Nat => s.heap.size ≤ q) (va_runV (As := []) (rest := []) ⟨hx, hb, hml, hown, htb⟩ (c_Mo_path l hm (by rw [hJ.1.1]; exact hlen)) (x_cV 0 htb mw_542 mw_6 mw_545 mw_543 mw_544 rfl rfl (by decide +kernel) ⟨Nat.le_of_ble_eq_true rfl, Nat.le_of_ble_eq_true rfl⟩) (x_preV hK hN ho rfl) rfl rfl hl.1 rfl (lv_room (Nat.le_of_ble_eq_true rfl)) d_La_law_177 ⟨(by show _ ≤ 601024; omega), (by show _ ≤ 7293034; omega)⟩) hL (lw_fM hd has) (fun H2 locs hP hL => ?_)
    refine W.eq (g2 := F0 m 180 ls [.int (nI M.1.length)]) rfl ?_
    refine va_forget hL ?_
    clear hL
    have hL : ∀ q ∈ ([] : List Loc), (fun q : Nat => s.heap.size ≤ q) q.base := fun q hq => by cases hq
    obtain ⟨hm, k2⟩ := hP
    obtain ⟨hd, hout, hX, hT⟩ := lw_keepM hd k2 hout hX (by omega) hT
    obtain ⟨G, ho, -, -⟩ := id hm
    refine lv_istore (lv' := [(6, .int (nI M.1.length)), (5, .int 0), (4, .int (nI i)), (0, .ref bb), (1, .ref a), (2, .ref (z + 12)), (3, .ref (z + 28))]) hx hb d_La_law_180 hl (by decide) rfl (fun ls hl => ?_)
    refine lv_aload_n hx hb d_La_law_182 rfl (lv_at hl 5 rfl) ?_
    refine x_callP (va_runV (As := []) (rest := []) ⟨hx, hb, hml, hown, htb⟩ (c_Mo_thrown l hm) (x_cV 0 htb mw_534 mw_6 mw_537 mw_535 mw_536 rfl rfl (by decide +kernel) ⟨Nat.le_of_ble_eq_true rfl, Nat.le_of_ble_eq_true rfl⟩) (x_preV hK hN ho rfl) rfl rfl hl.1 rfl (lv_room (Nat.le_of_ble_eq_true rfl)) d_La_law_183 ⟨(by show _ ≤ 601024; omega), (by show _ ≤ 7293034; omega)⟩) ?_
    refine W.eq (g2 := F0 m 186 ls [.int 0]) rfl ?_
    refine lv_iload hx hb d_La_law_186 (lv_at hl 1 rfl) ?_
    refine lv_icmp_eq (tgt := 193) hx hb d_La_law_188 (by decide) (fun _ => ?_) (fun c9 => absurd rfl c9)
    refine lv_iload hx hb d_La_law_193 (lv_at hl 1 rfl) ?_
    refine lv_if_ne (tgt := 210) hx hb d_La_law_195 (by decide) (fun c9 => absurd rfl c9) (fun _ => ?_)
    refine lv_aload_n hx hb d_La_law_198 rfl (lv_at hl 6 rfl) ?_
    refine lv_iconst (v := 0) hx hb d_La_law_199 (by decide) ?_
    refine x_lald hx hb hK 4 hout rfl (i := 0) (vp_in_nI (n := 0) (by decide) (by decide)) d_La_law_200 ?_
    refine x_topl (y := (nI S.1.length).toInt64) (hfo) ?_
    refine lv_iload hx hb d_La_law_201 (lv_at hl 0 rfl) ?_
    refine lv_i2l (v := (nI M.1.length).toInt64) hx hb d_La_law_203 rfl ?_
    refine x_topl (y := (nI S.1.length).toInt64) (by rw [hJ.1.1]) ?_
    refine x_lcmpE hx hb d_La_law_204 ?_
    refine lv_if_eq (tgt := 210) hx hb d_La_law_205 (by decide) (fun _ => ?_) (fun c9 => absurd rfl c9)
    refine lv_goto (tgt := 623) hx hb d_La_law_210 (by decide) ?_
    exact W.widen (by omega) (by omega) (next _ _ _ _ ⟨hd, ⟨_, hm⟩, ⟨_, hout⟩, hX, hT, hJ.path hlen⟩ (lv_sub hl [2, 3, 4, 5, 6] rfl))
  · refine x_call (F := fun q : Nat => s.heap.size ≤ q) (vx_runSW (As := [.ref a, .ref (z + 28)]) (rest := []) ⟨hx, hb, hml, hown, htb⟩ (c_La_pathT l hlt0 hd (by omega)) (x_cSW 2 htb mw_224 mw_0 mw_226 mw_225 rfl rfl (by decide +kernel) ⟨Nat.le_of_ble_eq_true rfl, Nat.le_of_ble_eq_true rfl⟩) (x_preSL hK hN hT hNc) rfl rfl hl.1 rfl (lv_room (Nat.le_of_ble_eq_true rfl)) d_La_law_171 ⟨(by show _ ≤ 601024; omega), (by show _ ≤ 7293034; omega)⟩) hL (lw_fC hd has) (fun H1 locs hP hL => ?_)
    refine W.eq (g2 := F0 m 174 ls [.int 1]) rfl ?_
    refine va_forget hL ?_
    clear hL
    have hL : ∀ q ∈ ([] : List Loc), (fun q : Nat => s.heap.size ≤ q) q.base := fun q hq => by cases hq
    have hd1 := hd.ext hP.1 hP.2
    have k1 : g_K (g_M a z) H H1 := ⟨hP.1, fun q hq _ => hP.2 q hq⟩
    obtain ⟨hm, hout, hX, hT⟩ := lw_keepC hd k1 hm hout hX (by omega) hT
    have hd := hd1
    obtain ⟨pa, as, bs, cs, ds, h1, -⟩ := id hd
    obtain ⟨G, ho, -, -⟩ := id hm
    refine lv_istore (lv' := [(5, .int 1), (4, .int (nI i)), (0, .ref bb), (1, .ref a), (2, .ref (z + 12)), (3, .ref (z + 28))]) hx hb d_La_law_174 hl (by decide) rfl (fun ls hl => ?_)
    refine lv_aload_n hx hb d_La_law_176 rfl (lv_at hl 4 rfl) ?_
    refine x_call (F := fun q : Nat => s.heap.size ≤ q) (va_runV (As := []) (rest := []) ⟨hx, hb, hml, hown, htb⟩ (c_Mo_pathT l hm (by rw [hJ.1.1]; omega)) (x_cV 0 htb mw_542 mw_6 mw_545 mw_543 mw_544 rfl rfl (by decide +kernel) ⟨Nat.le_of_ble_eq_true rfl, Nat.le_of_ble_eq_true rfl⟩) (x_preV hK hN ho rfl) rfl rfl hl.1 rfl (lv_room (Nat.le_of_ble_eq_true rfl)) d_La_law_177 ⟨(by show _ ≤ 601024; omega), (by show _ ≤ 7293034; omega)⟩) hL (lw_fM hd has) (fun H2 locs hP hL => ?_)
    refine W.eq (g2 := F0 m 180 ls [.int 0]) rfl ?_
    refine va_forget hL ?_
    clear hL
    have hL : ∀ q ∈ ([] : List Loc), (fun q : Nat => s.heap.size ≤ q) q.base := fun q hq => by cases hq
    obtain ⟨hm, k2⟩ := hP
    obtain ⟨hd, hout, hX, hT⟩ := lw_keepM hd k2 hout hX (by omega) hT
    obtain ⟨G, ho, -, -⟩ := id hm
    refine lv_istore (lv' := [(6, .int 0), (5, .int 1), (4, .int (nI i)), (0, .ref bb), (1, .ref a), (2, .ref (z + 12)), (3, .ref (z + 28))]) hx hb d_La_law_180 hl (by decide) rfl (fun ls hl => ?_)
    refine lv_aload_n hx hb d_La_law_182 rfl (lv_at hl 5 rfl) ?_
    refine x_callP (va_runV (As := []) (rest := []) ⟨hx, hb, hml, hown, htb⟩ (c_Mo_thrown l hm) (x_cV 0 htb mw_534 mw_6 mw_537 mw_535 mw_536 rfl rfl (by decide +kernel) ⟨Nat.le_of_ble_eq_true rfl, Nat.le_of_ble_eq_true rfl⟩) (x_preV hK hN ho rfl) rfl rfl hl.1 rfl (lv_room (Nat.le_of_ble_eq_true rfl)) d_La_law_183 ⟨(by show _ ≤ 601024; omega), (by show _ ≤ 7293034; omega)⟩) ?_
    refine W.eq (g2 := F0 m 186 ls [.int 1]) rfl ?_
    refine lv_iload hx hb d_La_law_186 (lv_at hl 1 rfl) ?_
    refine lv_icmp_eq (tgt := 193) hx hb d_La_law_188 (by decide) (fun _ => ?_) (fun c9 => absurd rfl c9)
    refine lv_iload hx hb d_La_law_193 (lv_at hl 1 rfl) ?_
    refine lv_if_ne (tgt := 210) hx hb d_La_law_195 (by decide) (fun _ => ?_) (fun c9 => absurd c9 (by decide))
    refine lv_goto (tgt := 623) hx hb d_La_law_210 (by decide) ?_
    exact W.widen (by omega) (by omega) (next _ _ _ _ ⟨hd, ⟨_, hm⟩, ⟨_, hout⟩, hX, hT, hJ⟩ (lv_sub hl [2, 3, 4, 5, 6] rfl))
set_option maxHeartbeats 4000000 in
set_option maxRecDepth 100000 in
theorem lw_2 {p : Program} {l : Launch} {e : Env} {s : State} {m : MethodId} {below : List Frame} {meth : Method} {c : Code} {bb L : Nat} {D : va_G} {A : Nat → ClassId} {a z : Nat} {xs : Nat → Int32} (hlt0 : l.stackTraces = false) (C : lw_C p s m meth c bb L D A a) {t i : Nat} (hi : i + 5 ≤ L) (ht : i = 5 * t) {S : g_S} {M : m_S} {H : Heap} {ls : Array Slot} (I : lw_I D A a z bb L xs s S M H) (hl : lv_has ls 7 [(4, .int (nI i)), (0, .ref bb), (1, .ref a), (2, .ref (z + 12)), (3, .ref (z + 28))])
    (next : ∀ (S : g_S) (M : m_S) (H : Heap) (ls : Array Slot), lw_I D A a z bb L xs s S M H → lv_has ls 7 [(4, .int (nI i)), (0, .ref bb), (1, .ref a), (2, .ref (z + 12)), (3, .ref (z + 28))] → W p l e room_1 s m #[Value.ref bb] below meth c H [] (30 + 6 * (t + 1)) (170000 + 420 * (t + 1)) (lw_Z below #[Value.ref bb] s) (F0 m 623 ls [])) : W p l e room_1 s m #[Value.ref bb] below meth c H [] (30 + 6 * t) (170000 + 420 * t) (lw_Z below #[Value.ref bb] s) (F0 m 213 ls []) := by
  obtain ⟨hx, hb, hr, hml, hown, htb, hK, hN, hNc, hlocks, hbl, has, hLm⟩ := C
  obtain ⟨hd, ⟨th, hm⟩, ⟨fo, hout⟩, hX, hT, hJ⟩ := I
  obtain ⟨haz, hzs⟩ := hd.lt
  obtain ⟨pa, as, bs, cs, ds, h1, -⟩ := id hd
  obtain ⟨G, ho, -, -⟩ := id hm
  have hL : ∀ q ∈ ([] : List Loc), (fun q : Nat => s.heap.size ≤ q) q.base := fun q hq => by cases hq
  refine lv_aload_n hx hb d_La_law_213 rfl (lv_at hl 2 rfl) ?_
  refine lv_aload_n hx hb d_La_law_214 rfl (lv_at hl 1 rfl) ?_
  refine lv_iload hx hb d_La_law_215 (lv_at hl 0 rfl) ?_
  refine lv_iconst (v := 1) hx hb d_La_law_217 (by decide) ?_
  refine lv_iadd hx hb d_La_law_218 ?_
  refine x_top (y := nI (i + 1)) (nI_add i 1) ?_
  refine x_sld hx hb hX (i := i + 1) (by omega) (by omega) d_La_law_219 ?_
  refine lv_aload_n hx hb d_La_law_220 rfl (lv_at hl 1 rfl) ?_
  refine lv_iload hx hb d_La_law_221 (lv_at hl 0 rfl) ?_
  refine lv_iconst (v := 2) hx hb d_La_law_223 (by decide) ?_
  refine lv_iadd hx hb d_La_law_224 ?_
  refine x_top (y := nI (i + 2)) (nI_add i 2) ?_
  refine x_sld hx hb hX (i := i + 2) (by omega) (by omega) d_La_law_225 ?_
  obtain ⟨l1, l2⟩ := hJ.lens
  have ep := hJ.2.1.1
  by_cases hok : g_ok (xs (i + 1)) (xs (i + 2))
  · by_cases hbad : 200 ≤ S.2.2.2.2.2.1.length ∨ (60 ≤ S.2.2.1.length ∧ g_get S.2.2.1 (xs (i + 1), xs (i + 2), S.2.1) = none)
    · refine x_call (F := fun q : Nat => s.heap.size ≤ q) (vx_runSW (As := [.ref a, .int (xs (i + 1)), .int (xs (i + 2))]) (rest := []) ⟨hx, hb, hml, hown, htb⟩ (c_La_writeT2 l hlt0 hd hok hbad) (x_cSW 3 htb mw_321 mw_0 mw_323 mw_322 rfl rfl (by decide +kernel) ⟨Nat.le_of_ble_eq_true rfl, Nat.le_of_ble_eq_true rfl⟩) (x_preSL hK hN hT hNc) rfl rfl hl.1 rfl (lv_room (Nat.le_of_ble_eq_true rfl)) d_La_law_226 ⟨(by show _ ≤ 601024; omega), (by show _ ≤ 7293034; omega)⟩) hL (lw_fC hd has) (fun H1 locs hP hL => ?_)
      refine W.eq (g2 := F0 m 229 ls [.int 2]) rfl ?_
      refine va_forget hL ?_
      clear hL
      have hL : ∀ q ∈ ([] : List Loc), (fun q : Nat => s.heap.size ≤ q) q.base := fun q hq => by cases hq
      have hd1 := hd.ext hP.1 hP.2
      have k1 : g_K (g_M a z) H H1 := ⟨hP.1, fun q hq _ => hP.2 q hq⟩
      obtain ⟨hm, hout, hX, hT⟩ := lw_keepC hd k1 hm hout hX (by omega) hT
      have hd := hd1
      obtain ⟨pa, as, bs, cs, ds, h1, -⟩ := id hd
      obtain ⟨G, ho, -, -⟩ := id hm
      refine lv_istore (lv' := [(5, .int 2), (4, .int (nI i)), (0, .ref bb), (1, .ref a), (2, .ref (z + 12)), (3, .ref (z + 28))]) hx hb d_La_law_229 hl (by decide) rfl (fun ls hl => ?_)
      refine lv_aload_n hx hb d_La_law_231 rfl (lv_at hl 4 rfl) ?_
      refine lv_aload_n hx hb d_La_law_232 rfl (lv_at hl 2 rfl) ?_
      refine lv_iload hx hb d_La_law_233 (lv_at hl 1 rfl) ?_
      refine lv_iconst (v := 1) hx hb d_La_law_235 (by decide) ?_
      refine lv_iadd hx hb d_La_law_236 ?_
      refine x_top (y := nI (i + 1)) (nI_add i 1) ?_
      refine x_sld hx hb hX (i := i + 1) (by omega) (by omega) d_La_law_237 ?_
      refine lv_aload_n hx hb d_La_law_238 rfl (lv_at hl 2 rfl) ?_
      refine lv_iload hx hb d_La_law_239 (lv_at hl 1 rfl) ?_
      refine lv_iconst (v := 2) hx hb d_La_law_241 (by decide) ?_
      refine lv_iadd hx hb d_La_law_242 ?_
      refine x_top (y := nI (i + 2)) (nI_add i 2) ?_
      refine x_sld hx hb hX (i := i + 2) (by omega) (by omega) d_La_law_243 ?_
      refine x_call (F := fun q : Nat => s.heap.size ≤ q) (va_runV (As := [.int (xs (i + 1)), .int (xs (i + 2))]) (rest := []) ⟨hx, hb, hml, hown, htb⟩ (c_Mo_writeT2 l hm hok (hbad.elim (fun q => Or.inl (by omega)) (fun q => Or.inr ⟨by omega, hJ.none q.2⟩))) (x_cV 2 htb mw_546 mw_6 mw_549 mw_547 mw_548 rfl rfl (by decide +kernel) ⟨Nat.le_of_ble_eq_true rfl, Nat.le_of_ble_eq_true rfl⟩) (x_preV hK hN ho rfl) rfl rfl hl.1 rfl (lv_room (Nat.le_of_ble_eq_true rfl)) d_La_law_244 ⟨(by show _ ≤ 601024; omega), (by show _ ≤ 7293034; omega)⟩) hL (lw_fM hd has) (fun H2 locs hP hL => ?_)
      refine W.eq (g2 := F0 m 247 ls []) rfl ?_
      refine va_forget hL ?_
      clear hL
      have hL : ∀ q ∈ ([] : List Loc), (fun q : Nat => s.heap.size ≤ q) q.base := fun q hq => by cases hq
      obtain ⟨hm, k2⟩ := hP
      obtain ⟨hd, hout, hX, hT⟩ := lw_keepM hd k2 hout hX (by omega) hT
      obtain ⟨G, ho, -, -⟩ := id hm
      refine lv_aload_n hx hb d_La_law_247 rfl (lv_at hl 4 rfl) ?_
      refine x_callP (va_runV (As := []) (rest := []) ⟨hx, hb, hml, hown, htb⟩ (c_Mo_thrown l hm) (x_cV 0 htb mw_534 mw_6 mw_537 mw_535 mw_536 rfl rfl (by decide +kernel) ⟨Nat.le_of_ble_eq_true rfl, Nat.le_of_ble_eq_true rfl⟩) (x_preV hK hN ho rfl) rfl rfl hl.1 rfl (lv_room (Nat.le_of_ble_eq_true rfl)) d_La_law_248 ⟨(by show _ ≤ 601024; omega), (by show _ ≤ 7293034; omega)⟩) ?_
      refine W.eq (g2 := F0 m 251 ls [.int 2]) rfl ?_
      refine lv_iload hx hb d_La_law_251 (lv_at hl 0 rfl) ?_
      refine lv_icmp_eq (tgt := 258) hx hb d_La_law_253 (by decide) (fun _ => ?_) (fun c9 => absurd rfl c9)
      refine lv_goto (tgt := 623) hx hb d_La_law_258 (by decide) ?_
      exact W.widen (by omega) (by omega) (next _ _ _ _ ⟨hd, ⟨_, hm⟩, ⟨_, hout⟩, hX, hT, hJ⟩ (lv_sub hl [1, 2, 3, 4, 5] rfl))
    · have hlt : S.2.2.2.2.2.1.length < 200 := Nat.lt_of_not_le fun q => hbad (Or.inl q)
      have hroom : S.2.2.1.length < 60 ∨ ∃ f, g_get S.2.2.1 (xs (i + 1), xs (i + 2), S.2.1) = some f := by
        rcases Nat.lt_or_ge S.2.2.1.length 60 with q | q
        · exact Or.inl q
        · cases hg : g_get S.2.2.1 (xs (i + 1), xs (i + 2), S.2.1) with
          | none => exact absurd (Or.inr ⟨q, hg⟩) hbad
          | some f => exact Or.inr ⟨f, rfl⟩
      have hJ2 := hJ.push (us := []) (Or.inl rfl) (co := ((xs (i + 1), xs (i + 2), S.2.1), some ((xs (i + 1), xs (i + 2), S.2.1), S.1))) (mo := (0, 0, 0, ((xs (i + 1), xs (i + 2), M.2.1), M.1))) ⟨by show g_okp M.2.1; rw [ep]; exact hJ.okn, Or.inl ⟨rfl, by rw [ep, hJ.1.1], by show S.2.2.1.length < 60 ∨ ∃ f, g_get S.2.2.1 (xs (i + 1), xs (i + 2), M.2.1) = some f; rw [ep]; exact hroom⟩⟩
      refine x_call (F := fun q : Nat => s.heap.size ≤ q) (vx_runSW (As := [.ref a, .int (xs (i + 1)), .int (xs (i + 2))]) (rest := []) ⟨hx, hb, hml, hown, htb⟩ (c_La_write l hd hok hroom hlt) (x_cSW 3 htb mw_321 mw_0 mw_323 mw_322 rfl rfl (by decide +kernel) ⟨Nat.le_of_ble_eq_true rfl, Nat.le_of_ble_eq_true rfl⟩) (x_preSL hK hN hT hNc) rfl rfl hl.1 rfl (lv_room (Nat.le_of_ble_eq_true rfl)) d_La_law_226 ⟨(by show _ ≤ 601024; omega), (by show _ ≤ 7293034; omega)⟩) hL (lw_fC hd has) (fun H1 locs hP hL => ?_)
      refine W.eq (g2 := F0 m 229 ls [.int 0]) rfl ?_
      refine va_forget hL ?_
      clear hL
      have hL : ∀ q ∈ ([] : List Loc), (fun q : Nat => s.heap.size ≤ q) q.base := fun q hq => by cases hq
      obtain ⟨hd1, k1⟩ := hP
      obtain ⟨hm, hout, hX, hT⟩ := lw_keepC hd k1 hm hout hX (by omega) hT
      have hd := hd1
      obtain ⟨pa, as, bs, cs, ds, h1, -⟩ := id hd
      obtain ⟨G, ho, -, -⟩ := id hm
      refine lv_istore (lv' := [(5, .int 0), (4, .int (nI i)), (0, .ref bb), (1, .ref a), (2, .ref (z + 12)), (3, .ref (z + 28))]) hx hb d_La_law_229 hl (by decide) rfl (fun ls hl => ?_)
      refine lv_aload_n hx hb d_La_law_231 rfl (lv_at hl 4 rfl) ?_
      refine lv_aload_n hx hb d_La_law_232 rfl (lv_at hl 2 rfl) ?_
      refine lv_iload hx hb d_La_law_233 (lv_at hl 1 rfl) ?_
      refine lv_iconst (v := 1) hx hb d_La_law_235 (by decide) ?_
      refine lv_iadd hx hb d_La_law_236 ?_
      refine x_top (y := nI (i + 1)) (nI_add i 1) ?_
      refine x_sld hx hb hX (i := i + 1) (by omega) (by omega) d_La_law_237 ?_
      refine lv_aload_n hx hb d_La_law_238 rfl (lv_at hl 2 rfl) ?_
      refine lv_iload hx hb d_La_law_239 (lv_at hl 1 rfl) ?_
      refine lv_iconst (v := 2) hx hb d_La_law_241 (by decide) ?_
      refine lv_iadd hx hb d_La_law_242 ?_
      refine x_top (y := nI (i + 2)) (nI_add i 2) ?_
      refine x_sld hx hb hX (i := i + 2) (by omega) (by omega) d_La_law_243 ?_
      refine x_call (F := fun q : Nat => s.heap.size ≤ q) (va_runV (As := [.int (xs (i + 1)), .int (xs (i + 2))]) (rest := []) ⟨hx, hb, hml, hown, htb⟩ (c_Mo_write l hm hok (hroom.elim (fun q => Or.inl (by omega)) (fun q => by obtain ⟨f, q⟩ := q; exact Or.inr (hJ.some q).1)) (by omega)) (x_cV 2 htb mw_546 mw_6 mw_549 mw_547 mw_548 rfl rfl (by decide +kernel) ⟨Nat.le_of_ble_eq_true rfl, Nat.le_of_ble_eq_true rfl⟩) (x_preV hK hN ho rfl) rfl rfl hl.1 rfl (lv_room (Nat.le_of_ble_eq_true rfl)) d_La_law_244 ⟨(by show _ ≤ 601024; omega), (by show _ ≤ 7293034; omega)⟩) hL (lw_fM hd has) (fun H2 locs hP hL => ?_)
      refine W.eq (g2 := F0 m 247 ls []) rfl ?_
      refine va_forget hL ?_
      clear hL
      have hL : ∀ q ∈ ([] : List Loc), (fun q : Nat => s.heap.size ≤ q) q.base := fun q hq => by cases hq
      obtain ⟨hm, k2⟩ := hP
      obtain ⟨hd, hout, hX, hT⟩ := lw_keepM hd k2 hout hX (by omega) hT
      obtain ⟨G, ho, -, -⟩ := id hm
      refine lv_aload_n hx hb d_La_law_247 rfl (lv_at hl 4 rfl) ?_
      refine x_callP (va_runV (As := []) (rest := []) ⟨hx, hb, hml, hown, htb⟩ (c_Mo_thrown l hm) (x_cV 0 htb mw_534 mw_6 mw_537 mw_535 mw_536 rfl rfl (by decide +kernel) ⟨Nat.le_of_ble_eq_true rfl, Nat.le_of_ble_eq_true rfl⟩) (x_preV hK hN ho rfl) rfl rfl hl.1 rfl (lv_room (Nat.le_of_ble_eq_true rfl)) d_La_law_248 ⟨(by show _ ≤ 601024; omega), (by show _ ≤ 7293034; omega)⟩) ?_
      refine W.eq (g2 := F0 m 251 ls [.int 0]) rfl ?_
      refine lv_iload hx hb d_La_law_251 (lv_at hl 0 rfl) ?_
      refine lv_icmp_eq (tgt := 258) hx hb d_La_law_253 (by decide) (fun _ => ?_) (fun c9 => absurd rfl c9)
      refine lv_goto (tgt := 623) hx hb d_La_law_258 (by decide) ?_
      exact W.widen (by omega) (by omega) (next _ _ _ _ ⟨hd, ⟨_, hm⟩, ⟨_, hout⟩, hX, hT, hJ2⟩ (lv_sub hl [1, 2, 3, 4, 5] rfl))
  · refine x_call (F := fun q : Nat => s.heap.size ≤ q) (vx_runSW (As := [.ref a, .int (xs (i + 1)), .int (xs (i + 2))]) (rest := []) ⟨hx, hb, hml, hown, htb⟩ (c_La_writeT1 l hlt0 hd hok) (x_cSW 3 htb mw_321 mw_0 mw_323 mw_322 rfl rfl (by decide +kernel) ⟨Nat.le_of_ble_eq_true rfl, Nat.le_of_ble_eq_true rfl⟩) (x_preSL hK hN hT hNc) rfl rfl hl.1 rfl (lv_room (Nat.le_of_ble_eq_true rfl)) d_La_law_226 ⟨(by show _ ≤ 601024; omega), (by show _ ≤ 7293034; omega)⟩) hL (lw_fC hd has) (fun H1 locs hP hL => ?_)
    refine W.eq (g2 := F0 m 229 ls [.int 1]) rfl ?_
    refine va_forget hL ?_
    clear hL
    have hL : ∀ q ∈ ([] : List Loc), (fun q : Nat => s.heap.size ≤ q) q.base := fun q hq => by cases hq
    have hd1 := hd.ext hP.1 hP.2
    have k1 : g_K (g_M a z) H H1 := ⟨hP.1, fun q hq _ => hP.2 q hq⟩
    obtain ⟨hm, hout, hX, hT⟩ := lw_keepC hd k1 hm hout hX (by omega) hT
    have hd := hd1
    obtain ⟨pa, as, bs, cs, ds, h1, -⟩ := id hd
    obtain ⟨G, ho, -, -⟩ := id hm
    refine lv_istore (lv' := [(5, .int 1), (4, .int (nI i)), (0, .ref bb), (1, .ref a), (2, .ref (z + 12)), (3, .ref (z + 28))]) hx hb d_La_law_229 hl (by decide) rfl (fun ls hl => ?_)
    refine lv_aload_n hx hb d_La_law_231 rfl (lv_at hl 4 rfl) ?_
    refine lv_aload_n hx hb d_La_law_232 rfl (lv_at hl 2 rfl) ?_
    refine lv_iload hx hb d_La_law_233 (lv_at hl 1 rfl) ?_
    refine lv_iconst (v := 1) hx hb d_La_law_235 (by decide) ?_
    refine lv_iadd hx hb d_La_law_236 ?_
    refine x_top (y := nI (i + 1)) (nI_add i 1) ?_
    refine x_sld hx hb hX (i := i + 1) (by omega) (by omega) d_La_law_237 ?_
    refine lv_aload_n hx hb d_La_law_238 rfl (lv_at hl 2 rfl) ?_
    refine lv_iload hx hb d_La_law_239 (lv_at hl 1 rfl) ?_
    refine lv_iconst (v := 2) hx hb d_La_law_241 (by decide) ?_
    refine lv_iadd hx hb d_La_law_242 ?_
    refine x_top (y := nI (i + 2)) (nI_add i 2) ?_
    refine x_sld hx hb hX (i := i + 2) (by omega) (by omega) d_La_law_243 ?_
    refine x_call (F := fun q : Nat => s.heap.size ≤ q) (va_runV (As := [.int (xs (i + 1)), .int (xs (i + 2))]) (rest := []) ⟨hx, hb, hml, hown, htb⟩ (c_Mo_writeT1 l hm hok) (x_cV 2 htb mw_546 mw_6 mw_549 mw_547 mw_548 rfl rfl (by decide +kernel) ⟨Nat.le_of_ble_eq_true rfl, Nat.le_of_ble_eq_true rfl⟩) (x_preV hK hN ho rfl) rfl rfl hl.1 rfl (lv_room (Nat.le_of_ble_eq_true rfl)) d_La_law_244 ⟨(by show _ ≤ 601024; omega), (by show _ ≤ 7293034; omega)⟩) hL (lw_fM hd has) (fun H2 locs hP hL => ?_)
    refine W.eq (g2 := F0 m 247 ls []) rfl ?_
    refine va_forget hL ?_
    clear hL
    have hL : ∀ q ∈ ([] : List Loc), (fun q : Nat => s.heap.size ≤ q) q.base := fun q hq => by cases hq
    obtain ⟨hm, k2⟩ := hP
    obtain ⟨hd, hout, hX, hT⟩ := lw_keepM hd k2 hout hX (by omega) hT
    obtain ⟨G, ho, -, -⟩ := id hm
    refine lv_aload_n hx hb d_La_law_247 rfl (lv_at hl 4 rfl) ?_
    refine x_callP (va_runV (As := []) (rest := []) ⟨hx, hb, hml, hown, htb⟩ (c_Mo_thrown l hm) (x_cV 0 htb mw_534 mw_6 mw_537 mw_535 mw_536 rfl rfl (by decide +kernel) ⟨Nat.le_of_ble_eq_true rfl, Nat.le_of_ble_eq_true rfl⟩) (x_preV hK hN ho rfl) rfl rfl hl.1 rfl (lv_room (Nat.le_of_ble_eq_true rfl)) d_La_law_248 ⟨(by show _ ≤ 601024; omega), (by show _ ≤ 7293034; omega)⟩) ?_
    refine W.eq (g2 := F0 m 251 ls [.int 1]) rfl ?_
    refine lv_iload hx hb d_La_law_251 (lv_at hl 0 rfl) ?_
    refine lv_icmp_eq (tgt := 258) hx hb d_La_law_253 (by decide) (fun _ => ?_) (fun c9 => absurd rfl c9)
    refine lv_goto (tgt := 623) hx hb d_La_law_258 (by decide) ?_
    exact W.widen (by omega) (by omega) (next _ _ _ _ ⟨hd, ⟨_, hm⟩, ⟨_, hout⟩, hX, hT, hJ⟩ (lv_sub hl [1, 2, 3, 4, 5] rfl))
set_option maxHeartbeats 4000000 in
set_option maxRecDepth 100000 in
theorem lw_3 {p : Program} {l : Launch} {e : Env} {s : State} {m : MethodId} {below : List Frame} {meth : Method} {c : Code} {bb L : Nat} {D : va_G} {A : Nat → ClassId} {a z : Nat} {xs : Nat → Int32} (hlt0 : l.stackTraces = false) (C : lw_C p s m meth c bb L D A a) {t i : Nat} (hi : i + 5 ≤ L) (ht : i = 5 * t) {S : g_S} {M : m_S} {H : Heap} {ls : Array Slot} (I : lw_I D A a z bb L xs s S M H) (hl : lv_has ls 7 [(4, .int (nI i)), (0, .ref bb), (1, .ref a), (2, .ref (z + 12)), (3, .ref (z + 28))])
    (next : ∀ (S : g_S) (M : m_S) (H : Heap) (ls : Array Slot), lw_I D A a z bb L xs s S M H → lv_has ls 7 [(4, .int (nI i)), (0, .ref bb), (1, .ref a), (2, .ref (z + 12)), (3, .ref (z + 28))] → W p l e room_1 s m #[Value.ref bb] below meth c H [] (30 + 6 * (t + 1)) (170000 + 420 * (t + 1)) (lw_Z below #[Value.ref bb] s) (F0 m 623 ls [])) : W p l e room_1 s m #[Value.ref bb] below meth c H [] (30 + 6 * t) (170000 + 420 * t) (lw_Z below #[Value.ref bb] s) (F0 m 261 ls []) := by
  obtain ⟨hx, hb, hr, hml, hown, htb, hK, hN, hNc, hlocks, hbl, has, hLm⟩ := C
  obtain ⟨hd, ⟨th, hm⟩, ⟨fo, hout⟩, hX, hT, hJ⟩ := I
  obtain ⟨haz, hzs⟩ := hd.lt
  obtain ⟨pa, as, bs, cs, ds, h1, -⟩ := id hd
  obtain ⟨G, ho, -, -⟩ := id hm
  have hL : ∀ q ∈ ([] : List Loc), (fun q : Nat => s.heap.size ≤ q) q.base := fun q hq => by cases hq
  refine lv_aload_n hx hb d_La_law_261 rfl (lv_at hl 2 rfl) ?_
  refine lv_aload_n hx hb d_La_law_262 rfl (lv_at hl 1 rfl) ?_
  refine lv_iload hx hb d_La_law_263 (lv_at hl 0 rfl) ?_
  refine lv_iconst (v := 1) hx hb d_La_law_265 (by decide) ?_
  refine lv_iadd hx hb d_La_law_266 ?_
  refine x_top (y := nI (i + 1)) (nI_add i 1) ?_
  refine x_sld hx hb hX (i := i + 1) (by omega) (by omega) d_La_law_267 ?_
  refine lv_aload_n hx hb d_La_law_268 rfl (lv_at hl 1 rfl) ?_
  refine lv_iload hx hb d_La_law_269 (lv_at hl 0 rfl) ?_
  refine lv_iconst (v := 2) hx hb d_La_law_271 (by decide) ?_
  refine lv_iadd hx hb d_La_law_272 ?_
  refine x_top (y := nI (i + 2)) (nI_add i 2) ?_
  refine x_sld hx hb hX (i := i + 2) (by omega) (by omega) d_La_law_273 ?_
  refine lv_aload_n hx hb d_La_law_274 rfl (lv_at hl 1 rfl) ?_
  refine lv_iload hx hb d_La_law_275 (lv_at hl 0 rfl) ?_
  refine lv_iconst (v := 3) hx hb d_La_law_277 (by decide) ?_
  refine lv_iadd hx hb d_La_law_278 ?_
  refine x_top (y := nI (i + 3)) (nI_add i 3) ?_
  refine x_sld hx hb hX (i := i + 3) (by omega) (by omega) d_La_law_279 ?_
  refine lv_aload_n hx hb d_La_law_280 rfl (lv_at hl 1 rfl) ?_
  refine lv_iload hx hb d_La_law_281 (lv_at hl 0 rfl) ?_
  refine lv_iconst (v := 4) hx hb d_La_law_283 (by decide) ?_
  refine lv_iadd hx hb d_La_law_284 ?_
  refine x_top (y := nI (i + 4)) (nI_add i 4) ?_
  refine x_sld hx hb hX (i := i + 4) (by omega) (by omega) d_La_law_285 ?_
  obtain ⟨l1, l2⟩ := hJ.lens
  have ep := hJ.2.1.1
  by_cases hoo : g_ok (xs (i + 1)) (xs (i + 2)) ∧ g_ok (xs (i + 3)) (xs (i + 4))
  · obtain ⟨hok, hok2⟩ := hoo
    cases hg : g_get S.2.2.1 (xs (i + 1), xs (i + 2), S.2.1) with
    | none =>
        refine x_call (F := fun q : Nat => s.heap.size ≤ q) (vx_runSW (As := [.ref a, .int (xs (i + 1)), .int (xs (i + 2)), .int (xs (i + 3)), .int (xs (i + 4))]) (rest := []) ⟨hx, hb, hml, hown, htb⟩ (c_La_renameT2 l hlt0 hd hok hok2 hg) (x_cSW 5 htb mw_422 mw_0 mw_424 mw_423 rfl rfl (by decide +kernel) ⟨Nat.le_of_ble_eq_true rfl, Nat.le_of_ble_eq_true rfl⟩) (x_preSL hK hN hT hNc) rfl rfl hl.1 rfl (lv_room (Nat.le_of_ble_eq_true rfl)) d_La_law_286 ⟨(by show _ ≤ 601024; omega), (by show _ ≤ 7293034; omega)⟩) hL (lw_fC hd has) (fun H1 locs hP hL => ?_)
        refine W.eq (g2 := F0 m 289 ls [.int 2]) rfl ?_
        refine va_forget hL ?_
        clear hL
        have hL : ∀ q ∈ ([] : List Loc), (fun q : Nat => s.heap.size ≤ q) q.base := fun q hq => by cases hq
        have hd1 := hd.ext hP.1 hP.2
        have k1 : g_K (g_M a z) H H1 := ⟨hP.1, fun q hq _ => hP.2 q hq⟩
        obtain ⟨hm, hout, hX, hT⟩ := lw_keepC hd k1 hm hout hX (by omega) hT
        have hd := hd1
        obtain ⟨pa, as, bs, cs, ds, h1, -⟩ := id hd
        obtain ⟨G, ho, -, -⟩ := id hm
        refine lv_istore (lv' := [(5, .int 2), (4, .int (nI i)), (0, .ref bb), (1, .ref a), (2, .ref (z + 12)), (3, .ref (z + 28))]) hx hb d_La_law_289 hl (by decide) rfl (fun ls hl => ?_)
        refine lv_aload_n hx hb d_La_law_291 rfl (lv_at hl 4 rfl) ?_
        refine lv_aload_n hx hb d_La_law_292 rfl (lv_at hl 2 rfl) ?_
        refine lv_iload hx hb d_La_law_293 (lv_at hl 1 rfl) ?_
        refine lv_iconst (v := 1) hx hb d_La_law_295 (by decide) ?_
        refine lv_iadd hx hb d_La_law_296 ?_
        refine x_top (y := nI (i + 1)) (nI_add i 1) ?_
        refine x_sld hx hb hX (i := i + 1) (by omega) (by omega) d_La_law_297 ?_
        refine lv_aload_n hx hb d_La_law_298 rfl (lv_at hl 2 rfl) ?_
        refine lv_iload hx hb d_La_law_299 (lv_at hl 1 rfl) ?_
        refine lv_iconst (v := 2) hx hb d_La_law_301 (by decide) ?_
        refine lv_iadd hx hb d_La_law_302 ?_
        refine x_top (y := nI (i + 2)) (nI_add i 2) ?_
        refine x_sld hx hb hX (i := i + 2) (by omega) (by omega) d_La_law_303 ?_
        refine lv_aload_n hx hb d_La_law_304 rfl (lv_at hl 2 rfl) ?_
        refine lv_iload hx hb d_La_law_305 (lv_at hl 1 rfl) ?_
        refine lv_iconst (v := 3) hx hb d_La_law_307 (by decide) ?_
        refine lv_iadd hx hb d_La_law_308 ?_
        refine x_top (y := nI (i + 3)) (nI_add i 3) ?_
        refine x_sld hx hb hX (i := i + 3) (by omega) (by omega) d_La_law_309 ?_
        refine lv_aload_n hx hb d_La_law_310 rfl (lv_at hl 2 rfl) ?_
        refine lv_iload hx hb d_La_law_311 (lv_at hl 1 rfl) ?_
        refine lv_iconst (v := 4) hx hb d_La_law_313 (by decide) ?_
        refine lv_iadd hx hb d_La_law_314 ?_
        refine x_top (y := nI (i + 4)) (nI_add i 4) ?_
        refine x_sld hx hb hX (i := i + 4) (by omega) (by omega) d_La_law_315 ?_
        refine x_call (F := fun q : Nat => s.heap.size ≤ q) (va_runV (As := [.int (xs (i + 1)), .int (xs (i + 2)), .int (xs (i + 3)), .int (xs (i + 4))]) (rest := []) ⟨hx, hb, hml, hown, htb⟩ (c_Mo_renameT2 l hm hok hok2 (hJ.none hg)) (x_cV 4 htb mw_589 mw_6 mw_592 mw_590 mw_591 rfl rfl (by decide +kernel) ⟨Nat.le_of_ble_eq_true rfl, Nat.le_of_ble_eq_true rfl⟩) (x_preV hK hN ho rfl) rfl rfl hl.1 rfl (lv_room (Nat.le_of_ble_eq_true rfl)) d_La_law_316 ⟨(by show _ ≤ 601024; omega), (by show _ ≤ 7293034; omega)⟩) hL (lw_fM hd has) (fun H2 locs hP hL => ?_)
        refine W.eq (g2 := F0 m 319 ls []) rfl ?_
        refine va_forget hL ?_
        clear hL
        have hL : ∀ q ∈ ([] : List Loc), (fun q : Nat => s.heap.size ≤ q) q.base := fun q hq => by cases hq
        obtain ⟨hm, k2⟩ := hP
        obtain ⟨hd, hout, hX, hT⟩ := lw_keepM hd k2 hout hX (by omega) hT
        obtain ⟨G, ho, -, -⟩ := id hm
        refine lv_aload_n hx hb d_La_law_319 rfl (lv_at hl 4 rfl) ?_
        refine x_callP (va_runV (As := []) (rest := []) ⟨hx, hb, hml, hown, htb⟩ (c_Mo_thrown l hm) (x_cV 0 htb mw_534 mw_6 mw_537 mw_535 mw_536 rfl rfl (by decide +kernel) ⟨Nat.le_of_ble_eq_true rfl, Nat.le_of_ble_eq_true rfl⟩) (x_preV hK hN ho rfl) rfl rfl hl.1 rfl (lv_room (Nat.le_of_ble_eq_true rfl)) d_La_law_320 ⟨(by show _ ≤ 601024; omega), (by show _ ≤ 7293034; omega)⟩) ?_
        refine W.eq (g2 := F0 m 323 ls [.int 2]) rfl ?_
        refine lv_iload hx hb d_La_law_323 (lv_at hl 0 rfl) ?_
        refine lv_icmp_eq (tgt := 330) hx hb d_La_law_325 (by decide) (fun _ => ?_) (fun c9 => absurd rfl c9)
        refine lv_goto (tgt := 623) hx hb d_La_law_330 (by decide) ?_
        exact W.widen (by omega) (by omega) (next _ _ _ _ ⟨hd, ⟨_, hm⟩, ⟨_, hout⟩, hX, hT, hJ⟩ (lv_sub hl [1, 2, 3, 4, 5] rfl))
    | some f =>
        obtain ⟨⟨j, hj⟩, hnm⟩ := hJ.some hg
        by_cases hge : 200 ≤ S.2.2.2.2.2.1.length
        · refine x_call (F := fun q : Nat => s.heap.size ≤ q) (vx_runSW (As := [.ref a, .int (xs (i + 1)), .int (xs (i + 2)), .int (xs (i + 3)), .int (xs (i + 4))]) (rest := []) ⟨hx, hb, hml, hown, htb⟩ (c_La_renameT3 l hlt0 hd hok hok2 hg hge) (x_cSW 5 htb mw_422 mw_0 mw_424 mw_423 rfl rfl (by decide +kernel) ⟨Nat.le_of_ble_eq_true rfl, Nat.le_of_ble_eq_true rfl⟩) (x_preSL hK hN hT hNc) rfl rfl hl.1 rfl (lv_room (Nat.le_of_ble_eq_true rfl)) d_La_law_286 ⟨(by show _ ≤ 601024; omega), (by show _ ≤ 7293034; omega)⟩) hL (lw_fC hd has) (fun H1 locs hP hL => ?_)
          refine W.eq (g2 := F0 m 289 ls [.int 3]) rfl ?_
          refine va_forget hL ?_
          clear hL
          have hL : ∀ q ∈ ([] : List Loc), (fun q : Nat => s.heap.size ≤ q) q.base := fun q hq => by cases hq
          have hd1 := hd.ext hP.1 hP.2
          have k1 : g_K (g_M a z) H H1 := ⟨hP.1, fun q hq _ => hP.2 q hq⟩
          obtain ⟨hm, hout, hX, hT⟩ := lw_keepC hd k1 hm hout hX (by omega) hT
          have hd := hd1
          obtain ⟨pa, as, bs, cs, ds, h1, -⟩ := id hd
          obtain ⟨G, ho, -, -⟩ := id hm
          refine lv_istore (lv' := [(5, .int 3), (4, .int (nI i)), (0, .ref bb), (1, .ref a), (2, .ref (z + 12)), (3, .ref (z + 28))]) hx hb d_La_law_289 hl (by decide) rfl (fun ls hl => ?_)
          refine lv_aload_n hx hb d_La_law_291 rfl (lv_at hl 4 rfl) ?_
          refine lv_aload_n hx hb d_La_law_292 rfl (lv_at hl 2 rfl) ?_
          refine lv_iload hx hb d_La_law_293 (lv_at hl 1 rfl) ?_
          refine lv_iconst (v := 1) hx hb d_La_law_295 (by decide) ?_
          refine lv_iadd hx hb d_La_law_296 ?_
          refine x_top (y := nI (i + 1)) (nI_add i 1) ?_
          refine x_sld hx hb hX (i := i + 1) (by omega) (by omega) d_La_law_297 ?_
          refine lv_aload_n hx hb d_La_law_298 rfl (lv_at hl 2 rfl) ?_
          refine lv_iload hx hb d_La_law_299 (lv_at hl 1 rfl) ?_
          refine lv_iconst (v := 2) hx hb d_La_law_301 (by decide) ?_
          refine lv_iadd hx hb d_La_law_302 ?_
          refine x_top (y := nI (i + 2)) (nI_add i 2) ?_
          refine x_sld hx hb hX (i := i + 2) (by omega) (by omega) d_La_law_303 ?_
          refine lv_aload_n hx hb d_La_law_304 rfl (lv_at hl 2 rfl) ?_
          refine lv_iload hx hb d_La_law_305 (lv_at hl 1 rfl) ?_
          refine lv_iconst (v := 3) hx hb d_La_law_307 (by decide) ?_
          refine lv_iadd hx hb d_La_law_308 ?_
          refine x_top (y := nI (i + 3)) (nI_add i 3) ?_
          refine x_sld hx hb hX (i := i + 3) (by omega) (by omega) d_La_law_309 ?_
          refine lv_aload_n hx hb d_La_law_310 rfl (lv_at hl 2 rfl) ?_
          refine lv_iload hx hb d_La_law_311 (lv_at hl 1 rfl) ?_
          refine lv_iconst (v := 4) hx hb d_La_law_313 (by decide) ?_
          refine lv_iadd hx hb d_La_law_314 ?_
          refine x_top (y := nI (i + 4)) (nI_add i 4) ?_
          refine x_sld hx hb hX (i := i + 4) (by omega) (by omega) d_La_law_315 ?_
          refine x_call (F := fun q : Nat => s.heap.size ≤ q) (va_runV (As := [.int (xs (i + 1)), .int (xs (i + 2)), .int (xs (i + 3)), .int (xs (i + 4))]) (rest := []) ⟨hx, hb, hml, hown, htb⟩ (c_Mo_renameT3 l hm hok hok2 hj (by omega)) (x_cV 4 htb mw_589 mw_6 mw_592 mw_590 mw_591 rfl rfl (by decide +kernel) ⟨Nat.le_of_ble_eq_true rfl, Nat.le_of_ble_eq_true rfl⟩) (x_preV hK hN ho rfl) rfl rfl hl.1 rfl (lv_room (Nat.le_of_ble_eq_true rfl)) d_La_law_316 ⟨(by show _ ≤ 601024; omega), (by show _ ≤ 7293034; omega)⟩) hL (lw_fM hd has) (fun H2 locs hP hL => ?_)
          refine W.eq (g2 := F0 m 319 ls []) rfl ?_
          refine va_forget hL ?_
          clear hL
          have hL : ∀ q ∈ ([] : List Loc), (fun q : Nat => s.heap.size ≤ q) q.base := fun q hq => by cases hq
          obtain ⟨hm, k2⟩ := hP
          obtain ⟨hd, hout, hX, hT⟩ := lw_keepM hd k2 hout hX (by omega) hT
          obtain ⟨G, ho, -, -⟩ := id hm
          refine lv_aload_n hx hb d_La_law_319 rfl (lv_at hl 4 rfl) ?_
          refine x_callP (va_runV (As := []) (rest := []) ⟨hx, hb, hml, hown, htb⟩ (c_Mo_thrown l hm) (x_cV 0 htb mw_534 mw_6 mw_537 mw_535 mw_536 rfl rfl (by decide +kernel) ⟨Nat.le_of_ble_eq_true rfl, Nat.le_of_ble_eq_true rfl⟩) (x_preV hK hN ho rfl) rfl rfl hl.1 rfl (lv_room (Nat.le_of_ble_eq_true rfl)) d_La_law_320 ⟨(by show _ ≤ 601024; omega), (by show _ ≤ 7293034; omega)⟩) ?_
          refine W.eq (g2 := F0 m 323 ls [.int 3]) rfl ?_
          refine lv_iload hx hb d_La_law_323 (lv_at hl 0 rfl) ?_
          refine lv_icmp_eq (tgt := 330) hx hb d_La_law_325 (by decide) (fun _ => ?_) (fun c9 => absurd rfl c9)
          refine lv_goto (tgt := 623) hx hb d_La_law_330 (by decide) ?_
          exact W.widen (by omega) (by omega) (next _ _ _ _ ⟨hd, ⟨_, hm⟩, ⟨_, hout⟩, hX, hT, hJ⟩ (lv_sub hl [1, 2, 3, 4, 5] rfl))
        · have hJ2 := hJ.push (us := S.1) (Or.inr rfl) (co := ((xs (i + 1), xs (i + 2), S.2.1), some ((xs (i + 3), xs (i + 4), S.2.1), f.2))) (mo := (1, xs (i + 3), xs (i + 4), ((xs (i + 1), xs (i + 2), M.2.1), []))) ⟨by show g_okp M.2.1; rw [ep]; exact hJ.okn, Or.inr (Or.inr ⟨rfl, f, by show g_get S.2.2.1 (xs (i + 1), xs (i + 2), M.2.1) = some f; rw [ep]; exact hg, by rw [ep]⟩)⟩
          rw [show m_push M S.1 (1, xs (i + 3), xs (i + 4), ((xs (i + 1), xs (i + 2), M.2.1), [])) = m_push M M.1 (1, xs (i + 3), xs (i + 4), ((xs (i + 1), xs (i + 2), M.2.1), [])) by rw [hJ.1.1]] at hJ2
          refine x_call (F := fun q : Nat => s.heap.size ≤ q) (vx_runSW (As := [.ref a, .int (xs (i + 1)), .int (xs (i + 2)), .int (xs (i + 3)), .int (xs (i + 4))]) (rest := []) ⟨hx, hb, hml, hown, htb⟩ (c_La_rename l hd hok hok2 hg hnm (by omega)) (x_cSW 5 htb mw_422 mw_0 mw_424 mw_423 rfl rfl (by decide +kernel) ⟨Nat.le_of_ble_eq_true rfl, Nat.le_of_ble_eq_true rfl⟩) (x_preSL hK hN hT hNc) rfl rfl hl.1 rfl (lv_room (Nat.le_of_ble_eq_true rfl)) d_La_law_286 ⟨(by show _ ≤ 601024; omega), (by show _ ≤ 7293034; omega)⟩) hL (lw_fC hd has) (fun H1 locs hP hL => ?_)
          refine W.eq (g2 := F0 m 289 ls [.int 0]) rfl ?_
          refine va_forget hL ?_
          clear hL
          have hL : ∀ q ∈ ([] : List Loc), (fun q : Nat => s.heap.size ≤ q) q.base := fun q hq => by cases hq
          obtain ⟨hd1, k1⟩ := hP
          obtain ⟨hm, hout, hX, hT⟩ := lw_keepC hd k1 hm hout hX (by omega) hT
          have hd := hd1
          obtain ⟨pa, as, bs, cs, ds, h1, -⟩ := id hd
          obtain ⟨G, ho, -, -⟩ := id hm
          refine lv_istore (lv' := [(5, .int 0), (4, .int (nI i)), (0, .ref bb), (1, .ref a), (2, .ref (z + 12)), (3, .ref (z + 28))]) hx hb d_La_law_289 hl (by decide) rfl (fun ls hl => ?_)
          refine lv_aload_n hx hb d_La_law_291 rfl (lv_at hl 4 rfl) ?_
          refine lv_aload_n hx hb d_La_law_292 rfl (lv_at hl 2 rfl) ?_
          refine lv_iload hx hb d_La_law_293 (lv_at hl 1 rfl) ?_
          refine lv_iconst (v := 1) hx hb d_La_law_295 (by decide) ?_
          refine lv_iadd hx hb d_La_law_296 ?_
          refine x_top (y := nI (i + 1)) (nI_add i 1) ?_
          refine x_sld hx hb hX (i := i + 1) (by omega) (by omega) d_La_law_297 ?_
          refine lv_aload_n hx hb d_La_law_298 rfl (lv_at hl 2 rfl) ?_
          refine lv_iload hx hb d_La_law_299 (lv_at hl 1 rfl) ?_
          refine lv_iconst (v := 2) hx hb d_La_law_301 (by decide) ?_
          refine lv_iadd hx hb d_La_law_302 ?_
          refine x_top (y := nI (i + 2)) (nI_add i 2) ?_
          refine x_sld hx hb hX (i := i + 2) (by omega) (by omega) d_La_law_303 ?_
          refine lv_aload_n hx hb d_La_law_304 rfl (lv_at hl 2 rfl) ?_
          refine lv_iload hx hb d_La_law_305 (lv_at hl 1 rfl) ?_
          refine lv_iconst (v := 3) hx hb d_La_law_307 (by decide) ?_
          refine lv_iadd hx hb d_La_law_308 ?_
          refine x_top (y := nI (i + 3)) (nI_add i 3) ?_
          refine x_sld hx hb hX (i := i + 3) (by omega) (by omega) d_La_law_309 ?_
          refine lv_aload_n hx hb d_La_law_310 rfl (lv_at hl 2 rfl) ?_
          refine lv_iload hx hb d_La_law_311 (lv_at hl 1 rfl) ?_
          refine lv_iconst (v := 4) hx hb d_La_law_313 (by decide) ?_
          refine lv_iadd hx hb d_La_law_314 ?_
          refine x_top (y := nI (i + 4)) (nI_add i 4) ?_
          refine x_sld hx hb hX (i := i + 4) (by omega) (by omega) d_La_law_315 ?_
          refine x_call (F := fun q : Nat => s.heap.size ≤ q) (va_runV (As := [.int (xs (i + 1)), .int (xs (i + 2)), .int (xs (i + 3)), .int (xs (i + 4))]) (rest := []) ⟨hx, hb, hml, hown, htb⟩ (c_Mo_rename l hm hok hok2 hj (by omega)) (x_cV 4 htb mw_589 mw_6 mw_592 mw_590 mw_591 rfl rfl (by decide +kernel) ⟨Nat.le_of_ble_eq_true rfl, Nat.le_of_ble_eq_true rfl⟩) (x_preV hK hN ho rfl) rfl rfl hl.1 rfl (lv_room (Nat.le_of_ble_eq_true rfl)) d_La_law_316 ⟨(by show _ ≤ 601024; omega), (by show _ ≤ 7293034; omega)⟩) hL (lw_fM hd has) (fun H2 locs hP hL => ?_)
          refine W.eq (g2 := F0 m 319 ls []) rfl ?_
          refine va_forget hL ?_
          clear hL
          have hL : ∀ q ∈ ([] : List Loc), (fun q : Nat => s.heap.size ≤ q) q.base := fun q hq => by cases hq
          obtain ⟨hm, k2⟩ := hP
          obtain ⟨hd, hout, hX, hT⟩ := lw_keepM hd k2 hout hX (by omega) hT
          obtain ⟨G, ho, -, -⟩ := id hm
          refine lv_aload_n hx hb d_La_law_319 rfl (lv_at hl 4 rfl) ?_
          refine x_callP (va_runV (As := []) (rest := []) ⟨hx, hb, hml, hown, htb⟩ (c_Mo_thrown l hm) (x_cV 0 htb mw_534 mw_6 mw_537 mw_535 mw_536 rfl rfl (by decide +kernel) ⟨Nat.le_of_ble_eq_true rfl, Nat.le_of_ble_eq_true rfl⟩) (x_preV hK hN ho rfl) rfl rfl hl.1 rfl (lv_room (Nat.le_of_ble_eq_true rfl)) d_La_law_320 ⟨(by show _ ≤ 601024; omega), (by show _ ≤ 7293034; omega)⟩) ?_
          refine W.eq (g2 := F0 m 323 ls [.int 0]) rfl ?_
          refine lv_iload hx hb d_La_law_323 (lv_at hl 0 rfl) ?_
          refine lv_icmp_eq (tgt := 330) hx hb d_La_law_325 (by decide) (fun _ => ?_) (fun c9 => absurd rfl c9)
          refine lv_goto (tgt := 623) hx hb d_La_law_330 (by decide) ?_
          exact W.widen (by omega) (by omega) (next _ _ _ _ ⟨hd, ⟨_, hm⟩, ⟨_, hout⟩, hX, hT, hJ2⟩ (lv_sub hl [1, 2, 3, 4, 5] rfl))
  · by_cases hok : g_ok (xs (i + 1)) (xs (i + 2))
    · refine x_call (F := fun q : Nat => s.heap.size ≤ q) (vx_runSW (As := [.ref a, .int (xs (i + 1)), .int (xs (i + 2)), .int (xs (i + 3)), .int (xs (i + 4))]) (rest := []) ⟨hx, hb, hml, hown, htb⟩ (c_La_renameT1 l hlt0 hd hoo) (x_cSW 5 htb mw_422 mw_0 mw_424 mw_423 rfl rfl (by decide +kernel) ⟨Nat.le_of_ble_eq_true rfl, Nat.le_of_ble_eq_true rfl⟩) (x_preSL hK hN hT hNc) rfl rfl hl.1 rfl (lv_room (Nat.le_of_ble_eq_true rfl)) d_La_law_286 ⟨(by show _ ≤ 601024; omega), (by show _ ≤ 7293034; omega)⟩) hL (lw_fC hd has) (fun H1 locs hP hL => ?_)
      refine W.eq (g2 := F0 m 289 ls [.int 1]) rfl ?_
      refine va_forget hL ?_
      clear hL
      have hL : ∀ q ∈ ([] : List Loc), (fun q : Nat => s.heap.size ≤ q) q.base := fun q hq => by cases hq
      have hd1 := hd.ext hP.1 hP.2
      have k1 : g_K (g_M a z) H H1 := ⟨hP.1, fun q hq _ => hP.2 q hq⟩
      obtain ⟨hm, hout, hX, hT⟩ := lw_keepC hd k1 hm hout hX (by omega) hT
      have hd := hd1
      obtain ⟨pa, as, bs, cs, ds, h1, -⟩ := id hd
      obtain ⟨G, ho, -, -⟩ := id hm
      refine lv_istore (lv' := [(5, .int 1), (4, .int (nI i)), (0, .ref bb), (1, .ref a), (2, .ref (z + 12)), (3, .ref (z + 28))]) hx hb d_La_law_289 hl (by decide) rfl (fun ls hl => ?_)
      refine lv_aload_n hx hb d_La_law_291 rfl (lv_at hl 4 rfl) ?_
      refine lv_aload_n hx hb d_La_law_292 rfl (lv_at hl 2 rfl) ?_
      refine lv_iload hx hb d_La_law_293 (lv_at hl 1 rfl) ?_
      refine lv_iconst (v := 1) hx hb d_La_law_295 (by decide) ?_
      refine lv_iadd hx hb d_La_law_296 ?_
      refine x_top (y := nI (i + 1)) (nI_add i 1) ?_
      refine x_sld hx hb hX (i := i + 1) (by omega) (by omega) d_La_law_297 ?_
      refine lv_aload_n hx hb d_La_law_298 rfl (lv_at hl 2 rfl) ?_
      refine lv_iload hx hb d_La_law_299 (lv_at hl 1 rfl) ?_
      refine lv_iconst (v := 2) hx hb d_La_law_301 (by decide) ?_
      refine lv_iadd hx hb d_La_law_302 ?_
      refine x_top (y := nI (i + 2)) (nI_add i 2) ?_
      refine x_sld hx hb hX (i := i + 2) (by omega) (by omega) d_La_law_303 ?_
      refine lv_aload_n hx hb d_La_law_304 rfl (lv_at hl 2 rfl) ?_
      refine lv_iload hx hb d_La_law_305 (lv_at hl 1 rfl) ?_
      refine lv_iconst (v := 3) hx hb d_La_law_307 (by decide) ?_
      refine lv_iadd hx hb d_La_law_308 ?_
      refine x_top (y := nI (i + 3)) (nI_add i 3) ?_
      refine x_sld hx hb hX (i := i + 3) (by omega) (by omega) d_La_law_309 ?_
      refine lv_aload_n hx hb d_La_law_310 rfl (lv_at hl 2 rfl) ?_
      refine lv_iload hx hb d_La_law_311 (lv_at hl 1 rfl) ?_
      refine lv_iconst (v := 4) hx hb d_La_law_313 (by decide) ?_
      refine lv_iadd hx hb d_La_law_314 ?_
      refine x_top (y := nI (i + 4)) (nI_add i 4) ?_
      refine x_sld hx hb hX (i := i + 4) (by omega) (by omega) d_La_law_315 ?_
      refine x_call (F := fun q : Nat => s.heap.size ≤ q) (va_runV (As := [.int (xs (i + 1)), .int (xs (i + 2)), .int (xs (i + 3)), .int (xs (i + 4))]) (rest := []) ⟨hx, hb, hml, hown, htb⟩ (c_Mo_renameT1b l hm hok (fun q => hoo ⟨hok, q⟩)) (x_cV 4 htb mw_589 mw_6 mw_592 mw_590 mw_591 rfl rfl (by decide +kernel) ⟨Nat.le_of_ble_eq_true rfl, Nat.le_of_ble_eq_true rfl⟩) (x_preV hK hN ho rfl) rfl rfl hl.1 rfl (lv_room (Nat.le_of_ble_eq_true rfl)) d_La_law_316 ⟨(by show _ ≤ 601024; omega), (by show _ ≤ 7293034; omega)⟩) hL (lw_fM hd has) (fun H2 locs hP hL => ?_)
      refine W.eq (g2 := F0 m 319 ls []) rfl ?_
      refine va_forget hL ?_
      clear hL
      have hL : ∀ q ∈ ([] : List Loc), (fun q : Nat => s.heap.size ≤ q) q.base := fun q hq => by cases hq
      obtain ⟨hm, k2⟩ := hP
      obtain ⟨hd, hout, hX, hT⟩ := lw_keepM hd k2 hout hX (by omega) hT
      obtain ⟨G, ho, -, -⟩ := id hm
      refine lv_aload_n hx hb d_La_law_319 rfl (lv_at hl 4 rfl) ?_
      refine x_callP (va_runV (As := []) (rest := []) ⟨hx, hb, hml, hown, htb⟩ (c_Mo_thrown l hm) (x_cV 0 htb mw_534 mw_6 mw_537 mw_535 mw_536 rfl rfl (by decide +kernel) ⟨Nat.le_of_ble_eq_true rfl, Nat.le_of_ble_eq_true rfl⟩) (x_preV hK hN ho rfl) rfl rfl hl.1 rfl (lv_room (Nat.le_of_ble_eq_true rfl)) d_La_law_320 ⟨(by show _ ≤ 601024; omega), (by show _ ≤ 7293034; omega)⟩) ?_
      refine W.eq (g2 := F0 m 323 ls [.int 1]) rfl ?_
      refine lv_iload hx hb d_La_law_323 (lv_at hl 0 rfl) ?_
      refine lv_icmp_eq (tgt := 330) hx hb d_La_law_325 (by decide) (fun _ => ?_) (fun c9 => absurd rfl c9)
      refine lv_goto (tgt := 623) hx hb d_La_law_330 (by decide) ?_
      exact W.widen (by omega) (by omega) (next _ _ _ _ ⟨hd, ⟨_, hm⟩, ⟨_, hout⟩, hX, hT, hJ⟩ (lv_sub hl [1, 2, 3, 4, 5] rfl))
    · refine x_call (F := fun q : Nat => s.heap.size ≤ q) (vx_runSW (As := [.ref a, .int (xs (i + 1)), .int (xs (i + 2)), .int (xs (i + 3)), .int (xs (i + 4))]) (rest := []) ⟨hx, hb, hml, hown, htb⟩ (c_La_renameT1 l hlt0 hd hoo) (x_cSW 5 htb mw_422 mw_0 mw_424 mw_423 rfl rfl (by decide +kernel) ⟨Nat.le_of_ble_eq_true rfl, Nat.le_of_ble_eq_true rfl⟩) (x_preSL hK hN hT hNc) rfl rfl hl.1 rfl (lv_room (Nat.le_of_ble_eq_true rfl)) d_La_law_286 ⟨(by show _ ≤ 601024; omega), (by show _ ≤ 7293034; omega)⟩) hL (lw_fC hd has) (fun H1 locs hP hL => ?_)
      refine W.eq (g2 := F0 m 289 ls [.int 1]) rfl ?_
      refine va_forget hL ?_
      clear hL
      have hL : ∀ q ∈ ([] : List Loc), (fun q : Nat => s.heap.size ≤ q) q.base := fun q hq => by cases hq
      have hd1 := hd.ext hP.1 hP.2
      have k1 : g_K (g_M a z) H H1 := ⟨hP.1, fun q hq _ => hP.2 q hq⟩
      obtain ⟨hm, hout, hX, hT⟩ := lw_keepC hd k1 hm hout hX (by omega) hT
      have hd := hd1
      obtain ⟨pa, as, bs, cs, ds, h1, -⟩ := id hd
      obtain ⟨G, ho, -, -⟩ := id hm
      refine lv_istore (lv' := [(5, .int 1), (4, .int (nI i)), (0, .ref bb), (1, .ref a), (2, .ref (z + 12)), (3, .ref (z + 28))]) hx hb d_La_law_289 hl (by decide) rfl (fun ls hl => ?_)
      refine lv_aload_n hx hb d_La_law_291 rfl (lv_at hl 4 rfl) ?_
      refine lv_aload_n hx hb d_La_law_292 rfl (lv_at hl 2 rfl) ?_
      refine lv_iload hx hb d_La_law_293 (lv_at hl 1 rfl) ?_
      refine lv_iconst (v := 1) hx hb d_La_law_295 (by decide) ?_
      refine lv_iadd hx hb d_La_law_296 ?_
      refine x_top (y := nI (i + 1)) (nI_add i 1) ?_
      refine x_sld hx hb hX (i := i + 1) (by omega) (by omega) d_La_law_297 ?_
      refine lv_aload_n hx hb d_La_law_298 rfl (lv_at hl 2 rfl) ?_
      refine lv_iload hx hb d_La_law_299 (lv_at hl 1 rfl) ?_
      refine lv_iconst (v := 2) hx hb d_La_law_301 (by decide) ?_
      refine lv_iadd hx hb d_La_law_302 ?_
      refine x_top (y := nI (i + 2)) (nI_add i 2) ?_
      refine x_sld hx hb hX (i := i + 2) (by omega) (by omega) d_La_law_303 ?_
      refine lv_aload_n hx hb d_La_law_304 rfl (lv_at hl 2 rfl) ?_
      refine lv_iload hx hb d_La_law_305 (lv_at hl 1 rfl) ?_
      refine lv_iconst (v := 3) hx hb d_La_law_307 (by decide) ?_
      refine lv_iadd hx hb d_La_law_308 ?_
      refine x_top (y := nI (i + 3)) (nI_add i 3) ?_
      refine x_sld hx hb hX (i := i + 3) (by omega) (by omega) d_La_law_309 ?_
      refine lv_aload_n hx hb d_La_law_310 rfl (lv_at hl 2 rfl) ?_
      refine lv_iload hx hb d_La_law_311 (lv_at hl 1 rfl) ?_
      refine lv_iconst (v := 4) hx hb d_La_law_313 (by decide) ?_
      refine lv_iadd hx hb d_La_law_314 ?_
      refine x_top (y := nI (i + 4)) (nI_add i 4) ?_
      refine x_sld hx hb hX (i := i + 4) (by omega) (by omega) d_La_law_315 ?_
      refine x_call (F := fun q : Nat => s.heap.size ≤ q) (va_runV (As := [.int (xs (i + 1)), .int (xs (i + 2)), .int (xs (i + 3)), .int (xs (i + 4))]) (rest := []) ⟨hx, hb, hml, hown, htb⟩ (c_Mo_renameT1a l hm hok) (x_cV 4 htb mw_589 mw_6 mw_592 mw_590 mw_591 rfl rfl (by decide +kernel) ⟨Nat.le_of_ble_eq_true rfl, Nat.le_of_ble_eq_true rfl⟩) (x_preV hK hN ho rfl) rfl rfl hl.1 rfl (lv_room (Nat.le_of_ble_eq_true rfl)) d_La_law_316 ⟨(by show _ ≤ 601024; omega), (by show _ ≤ 7293034; omega)⟩) hL (lw_fM hd has) (fun H2 locs hP hL => ?_)
      refine W.eq (g2 := F0 m 319 ls []) rfl ?_
      refine va_forget hL ?_
      clear hL
      have hL : ∀ q ∈ ([] : List Loc), (fun q : Nat => s.heap.size ≤ q) q.base := fun q hq => by cases hq
      obtain ⟨hm, k2⟩ := hP
      obtain ⟨hd, hout, hX, hT⟩ := lw_keepM hd k2 hout hX (by omega) hT
      obtain ⟨G, ho, -, -⟩ := id hm
      refine lv_aload_n hx hb d_La_law_319 rfl (lv_at hl 4 rfl) ?_
      refine x_callP (va_runV (As := []) (rest := []) ⟨hx, hb, hml, hown, htb⟩ (c_Mo_thrown l hm) (x_cV 0 htb mw_534 mw_6 mw_537 mw_535 mw_536 rfl rfl (by decide +kernel) ⟨Nat.le_of_ble_eq_true rfl, Nat.le_of_ble_eq_true rfl⟩) (x_preV hK hN ho rfl) rfl rfl hl.1 rfl (lv_room (Nat.le_of_ble_eq_true rfl)) d_La_law_320 ⟨(by show _ ≤ 601024; omega), (by show _ ≤ 7293034; omega)⟩) ?_
      refine W.eq (g2 := F0 m 323 ls [.int 1]) rfl ?_
      refine lv_iload hx hb d_La_law_323 (lv_at hl 0 rfl) ?_
      refine lv_icmp_eq (tgt := 330) hx hb d_La_law_325 (by decide) (fun _ => ?_) (fun c9 => absurd rfl c9)
      refine lv_goto (tgt := 623) hx hb d_La_law_330 (by decide) ?_
      exact W.widen (by omega) (by omega) (next _ _ _ _ ⟨hd, ⟨_, hm⟩, ⟨_, hout⟩, hX, hT, hJ⟩ (lv_sub hl [1, 2, 3, 4, 5] rfl))
set_option maxHeartbeats 4000000 in
set_option maxRecDepth 100000 in
theorem lw_4 {p : Program} {l : Launch} {e : Env} {s : State} {m : MethodId} {below : List Frame} {meth : Method} {c : Code} {bb L : Nat} {D : va_G} {A : Nat → ClassId} {a z : Nat} {xs : Nat → Int32} (hlt0 : l.stackTraces = false) (C : lw_C p s m meth c bb L D A a) {t i : Nat} (hi : i + 5 ≤ L) (ht : i = 5 * t) {S : g_S} {M : m_S} {H : Heap} {ls : Array Slot} (I : lw_I D A a z bb L xs s S M H) (hl : lv_has ls 7 [(4, .int (nI i)), (0, .ref bb), (1, .ref a), (2, .ref (z + 12)), (3, .ref (z + 28))])
    (next : ∀ (S : g_S) (M : m_S) (H : Heap) (ls : Array Slot), lw_I D A a z bb L xs s S M H → lv_has ls 7 [(4, .int (nI i)), (0, .ref bb), (1, .ref a), (2, .ref (z + 12)), (3, .ref (z + 28))] → W p l e room_1 s m #[Value.ref bb] below meth c H [] (30 + 6 * (t + 1)) (170000 + 420 * (t + 1)) (lw_Z below #[Value.ref bb] s) (F0 m 623 ls [])) : W p l e room_1 s m #[Value.ref bb] below meth c H [] (30 + 6 * t) (170000 + 420 * t) (lw_Z below #[Value.ref bb] s) (F0 m 333 ls []) := by
  obtain ⟨hx, hb, hr, hml, hown, htb, hK, hN, hNc, hlocks, hbl, has, hLm⟩ := C
  obtain ⟨hd, ⟨th, hm⟩, ⟨fo, hout⟩, hX, hT, hJ⟩ := I
  obtain ⟨haz, hzs⟩ := hd.lt
  obtain ⟨pa, as, bs, cs, ds, h1, -⟩ := id hd
  obtain ⟨G, ho, -, -⟩ := id hm
  have hL : ∀ q ∈ ([] : List Loc), (fun q : Nat => s.heap.size ≤ q) q.base := fun q hq => by cases hq
  refine lv_aload_n hx hb d_La_law_333 rfl (lv_at hl 2 rfl) ?_
  refine lv_aload_n hx hb d_La_law_334 rfl (lv_at hl 1 rfl) ?_
  refine lv_iload hx hb d_La_law_335 (lv_at hl 0 rfl) ?_
  refine lv_iconst (v := 1) hx hb d_La_law_337 (by decide) ?_
  refine lv_iadd hx hb d_La_law_338 ?_
  refine x_top (y := nI (i + 1)) (nI_add i 1) ?_
  refine x_sld hx hb hX (i := i + 1) (by omega) (by omega) d_La_law_339 ?_
  refine lv_aload_n hx hb d_La_law_340 rfl (lv_at hl 1 rfl) ?_
  refine lv_iload hx hb d_La_law_341 (lv_at hl 0 rfl) ?_
  refine lv_iconst (v := 2) hx hb d_La_law_343 (by decide) ?_
  refine lv_iadd hx hb d_La_law_344 ?_
  refine x_top (y := nI (i + 2)) (nI_add i 2) ?_
  refine x_sld hx hb hX (i := i + 2) (by omega) (by omega) d_La_law_345 ?_
  obtain ⟨l1, l2⟩ := hJ.lens
  have ep := hJ.2.1.1
  by_cases hok : g_ok (xs (i + 1)) (xs (i + 2))
  · cases hg : g_get S.2.2.1 (xs (i + 1), xs (i + 2), S.2.1) with
    | none =>
        refine x_call (F := fun q : Nat => s.heap.size ≤ q) (vx_runSW (As := [.ref a, .int (xs (i + 1)), .int (xs (i + 2))]) (rest := []) ⟨hx, hb, hml, hown, htb⟩ (c_La_deleteT2 l hlt0 hd hok hg) (x_cSW 3 htb mw_434 mw_0 mw_436 mw_435 rfl rfl (by decide +kernel) ⟨Nat.le_of_ble_eq_true rfl, Nat.le_of_ble_eq_true rfl⟩) (x_preSL hK hN hT hNc) rfl rfl hl.1 rfl (lv_room (Nat.le_of_ble_eq_true rfl)) d_La_law_346 ⟨(by show _ ≤ 601024; omega), (by show _ ≤ 7293034; omega)⟩) hL (lw_fC hd has) (fun H1 locs hP hL => ?_)
        refine W.eq (g2 := F0 m 349 ls [.int 2]) rfl ?_
        refine va_forget hL ?_
        clear hL
        have hL : ∀ q ∈ ([] : List Loc), (fun q : Nat => s.heap.size ≤ q) q.base := fun q hq => by cases hq
        have hd1 := hd.ext hP.1 hP.2
        have k1 : g_K (g_M a z) H H1 := ⟨hP.1, fun q hq _ => hP.2 q hq⟩
        obtain ⟨hm, hout, hX, hT⟩ := lw_keepC hd k1 hm hout hX (by omega) hT
        have hd := hd1
        obtain ⟨pa, as, bs, cs, ds, h1, -⟩ := id hd
        obtain ⟨G, ho, -, -⟩ := id hm
        refine lv_istore (lv' := [(5, .int 2), (4, .int (nI i)), (0, .ref bb), (1, .ref a), (2, .ref (z + 12)), (3, .ref (z + 28))]) hx hb d_La_law_349 hl (by decide) rfl (fun ls hl => ?_)
        refine lv_aload_n hx hb d_La_law_351 rfl (lv_at hl 4 rfl) ?_
        refine lv_aload_n hx hb d_La_law_352 rfl (lv_at hl 2 rfl) ?_
        refine lv_iload hx hb d_La_law_353 (lv_at hl 1 rfl) ?_
        refine lv_iconst (v := 1) hx hb d_La_law_355 (by decide) ?_
        refine lv_iadd hx hb d_La_law_356 ?_
        refine x_top (y := nI (i + 1)) (nI_add i 1) ?_
        refine x_sld hx hb hX (i := i + 1) (by omega) (by omega) d_La_law_357 ?_
        refine lv_aload_n hx hb d_La_law_358 rfl (lv_at hl 2 rfl) ?_
        refine lv_iload hx hb d_La_law_359 (lv_at hl 1 rfl) ?_
        refine lv_iconst (v := 2) hx hb d_La_law_361 (by decide) ?_
        refine lv_iadd hx hb d_La_law_362 ?_
        refine x_top (y := nI (i + 2)) (nI_add i 2) ?_
        refine x_sld hx hb hX (i := i + 2) (by omega) (by omega) d_La_law_363 ?_
        refine x_call (F := fun q : Nat => s.heap.size ≤ q) (va_runV (As := [.int (xs (i + 1)), .int (xs (i + 2))]) (rest := []) ⟨hx, hb, hml, hown, htb⟩ (c_Mo_deleteT2 l hm hok (hJ.none hg)) (x_cV 2 htb mw_593 mw_6 mw_596 mw_594 mw_595 rfl rfl (by decide +kernel) ⟨Nat.le_of_ble_eq_true rfl, Nat.le_of_ble_eq_true rfl⟩) (x_preV hK hN ho rfl) rfl rfl hl.1 rfl (lv_room (Nat.le_of_ble_eq_true rfl)) d_La_law_364 ⟨(by show _ ≤ 601024; omega), (by show _ ≤ 7293034; omega)⟩) hL (lw_fM hd has) (fun H2 locs hP hL => ?_)
        refine W.eq (g2 := F0 m 367 ls []) rfl ?_
        refine va_forget hL ?_
        clear hL
        have hL : ∀ q ∈ ([] : List Loc), (fun q : Nat => s.heap.size ≤ q) q.base := fun q hq => by cases hq
        obtain ⟨hm, k2⟩ := hP
        obtain ⟨hd, hout, hX, hT⟩ := lw_keepM hd k2 hout hX (by omega) hT
        obtain ⟨G, ho, -, -⟩ := id hm
        refine lv_aload_n hx hb d_La_law_367 rfl (lv_at hl 4 rfl) ?_
        refine x_callP (va_runV (As := []) (rest := []) ⟨hx, hb, hml, hown, htb⟩ (c_Mo_thrown l hm) (x_cV 0 htb mw_534 mw_6 mw_537 mw_535 mw_536 rfl rfl (by decide +kernel) ⟨Nat.le_of_ble_eq_true rfl, Nat.le_of_ble_eq_true rfl⟩) (x_preV hK hN ho rfl) rfl rfl hl.1 rfl (lv_room (Nat.le_of_ble_eq_true rfl)) d_La_law_368 ⟨(by show _ ≤ 601024; omega), (by show _ ≤ 7293034; omega)⟩) ?_
        refine W.eq (g2 := F0 m 371 ls [.int 2]) rfl ?_
        refine lv_iload hx hb d_La_law_371 (lv_at hl 0 rfl) ?_
        refine lv_icmp_eq (tgt := 378) hx hb d_La_law_373 (by decide) (fun _ => ?_) (fun c9 => absurd rfl c9)
        refine lv_goto (tgt := 623) hx hb d_La_law_378 (by decide) ?_
        exact W.widen (by omega) (by omega) (next _ _ _ _ ⟨hd, ⟨_, hm⟩, ⟨_, hout⟩, hX, hT, hJ⟩ (lv_sub hl [1, 2, 3, 4, 5] rfl))
    | some f =>
        obtain ⟨⟨j, hj⟩, hnm⟩ := hJ.some hg
        by_cases hge : 200 ≤ S.2.2.2.2.2.1.length
        · refine x_call (F := fun q : Nat => s.heap.size ≤ q) (vx_runSW (As := [.ref a, .int (xs (i + 1)), .int (xs (i + 2))]) (rest := []) ⟨hx, hb, hml, hown, htb⟩ (c_La_deleteT3 l hlt0 hd hok hg hge) (x_cSW 3 htb mw_434 mw_0 mw_436 mw_435 rfl rfl (by decide +kernel) ⟨Nat.le_of_ble_eq_true rfl, Nat.le_of_ble_eq_true rfl⟩) (x_preSL hK hN hT hNc) rfl rfl hl.1 rfl (lv_room (Nat.le_of_ble_eq_true rfl)) d_La_law_346 ⟨(by show _ ≤ 601024; omega), (by show _ ≤ 7293034; omega)⟩) hL (lw_fC hd has) (fun H1 locs hP hL => ?_)
          refine W.eq (g2 := F0 m 349 ls [.int 3]) rfl ?_
          refine va_forget hL ?_
          clear hL
          have hL : ∀ q ∈ ([] : List Loc), (fun q : Nat => s.heap.size ≤ q) q.base := fun q hq => by cases hq
          have hd1 := hd.ext hP.1 hP.2
          have k1 : g_K (g_M a z) H H1 := ⟨hP.1, fun q hq _ => hP.2 q hq⟩
          obtain ⟨hm, hout, hX, hT⟩ := lw_keepC hd k1 hm hout hX (by omega) hT
          have hd := hd1
          obtain ⟨pa, as, bs, cs, ds, h1, -⟩ := id hd
          obtain ⟨G, ho, -, -⟩ := id hm
          refine lv_istore (lv' := [(5, .int 3), (4, .int (nI i)), (0, .ref bb), (1, .ref a), (2, .ref (z + 12)), (3, .ref (z + 28))]) hx hb d_La_law_349 hl (by decide) rfl (fun ls hl => ?_)
          refine lv_aload_n hx hb d_La_law_351 rfl (lv_at hl 4 rfl) ?_
          refine lv_aload_n hx hb d_La_law_352 rfl (lv_at hl 2 rfl) ?_
          refine lv_iload hx hb d_La_law_353 (lv_at hl 1 rfl) ?_
          refine lv_iconst (v := 1) hx hb d_La_law_355 (by decide) ?_
          refine lv_iadd hx hb d_La_law_356 ?_
          refine x_top (y := nI (i + 1)) (nI_add i 1) ?_
          refine x_sld hx hb hX (i := i + 1) (by omega) (by omega) d_La_law_357 ?_
          refine lv_aload_n hx hb d_La_law_358 rfl (lv_at hl 2 rfl) ?_
          refine lv_iload hx hb d_La_law_359 (lv_at hl 1 rfl) ?_
          refine lv_iconst (v := 2) hx hb d_La_law_361 (by decide) ?_
          refine lv_iadd hx hb d_La_law_362 ?_
          refine x_top (y := nI (i + 2)) (nI_add i 2) ?_
          refine x_sld hx hb hX (i := i + 2) (by omega) (by omega) d_La_law_363 ?_
          refine x_call (F := fun q : Nat => s.heap.size ≤ q) (va_runV (As := [.int (xs (i + 1)), .int (xs (i + 2))]) (rest := []) ⟨hx, hb, hml, hown, htb⟩ (c_Mo_deleteT3 l hm hok hj (by omega)) (x_cV 2 htb mw_593 mw_6 mw_596 mw_594 mw_595 rfl rfl (by decide +kernel) ⟨Nat.le_of_ble_eq_true rfl, Nat.le_of_ble_eq_true rfl⟩) (x_preV hK hN ho rfl) rfl rfl hl.1 rfl (lv_room (Nat.le_of_ble_eq_true rfl)) d_La_law_364 ⟨(by show _ ≤ 601024; omega), (by show _ ≤ 7293034; omega)⟩) hL (lw_fM hd has) (fun H2 locs hP hL => ?_)
          refine W.eq (g2 := F0 m 367 ls []) rfl ?_
          refine va_forget hL ?_
          clear hL
          have hL : ∀ q ∈ ([] : List Loc), (fun q : Nat => s.heap.size ≤ q) q.base := fun q hq => by cases hq
          obtain ⟨hm, k2⟩ := hP
          obtain ⟨hd, hout, hX, hT⟩ := lw_keepM hd k2 hout hX (by omega) hT
          obtain ⟨G, ho, -, -⟩ := id hm
          refine lv_aload_n hx hb d_La_law_367 rfl (lv_at hl 4 rfl) ?_
          refine x_callP (va_runV (As := []) (rest := []) ⟨hx, hb, hml, hown, htb⟩ (c_Mo_thrown l hm) (x_cV 0 htb mw_534 mw_6 mw_537 mw_535 mw_536 rfl rfl (by decide +kernel) ⟨Nat.le_of_ble_eq_true rfl, Nat.le_of_ble_eq_true rfl⟩) (x_preV hK hN ho rfl) rfl rfl hl.1 rfl (lv_room (Nat.le_of_ble_eq_true rfl)) d_La_law_368 ⟨(by show _ ≤ 601024; omega), (by show _ ≤ 7293034; omega)⟩) ?_
          refine W.eq (g2 := F0 m 371 ls [.int 3]) rfl ?_
          refine lv_iload hx hb d_La_law_371 (lv_at hl 0 rfl) ?_
          refine lv_icmp_eq (tgt := 378) hx hb d_La_law_373 (by decide) (fun _ => ?_) (fun c9 => absurd rfl c9)
          refine lv_goto (tgt := 623) hx hb d_La_law_378 (by decide) ?_
          exact W.widen (by omega) (by omega) (next _ _ _ _ ⟨hd, ⟨_, hm⟩, ⟨_, hout⟩, hX, hT, hJ⟩ (lv_sub hl [1, 2, 3, 4, 5] rfl))
        · have hJ2 := hJ.push (us := S.1) (Or.inr rfl) (co := ((xs (i + 1), xs (i + 2), S.2.1), none)) (mo := (2, 0, 0, ((xs (i + 1), xs (i + 2), M.2.1), []))) ⟨by show g_okp M.2.1; rw [ep]; exact hJ.okn, Or.inr (Or.inl ⟨rfl, by rw [ep], f, by show g_get S.2.2.1 (xs (i + 1), xs (i + 2), M.2.1) = some f; rw [ep]; exact hg⟩)⟩
          rw [show m_push M S.1 (2, 0, 0, ((xs (i + 1), xs (i + 2), M.2.1), [])) = m_push M M.1 (2, 0, 0, ((xs (i + 1), xs (i + 2), M.2.1), [])) by rw [hJ.1.1]] at hJ2
          refine x_call (F := fun q : Nat => s.heap.size ≤ q) (vx_runSW (As := [.ref a, .int (xs (i + 1)), .int (xs (i + 2))]) (rest := []) ⟨hx, hb, hml, hown, htb⟩ (c_La_delete l hd hok hg hnm (by omega)) (x_cSW 3 htb mw_434 mw_0 mw_436 mw_435 rfl rfl (by decide +kernel) ⟨Nat.le_of_ble_eq_true rfl, Nat.le_of_ble_eq_true rfl⟩) (x_preSL hK hN hT hNc) rfl rfl hl.1 rfl (lv_room (Nat.le_of_ble_eq_true rfl)) d_La_law_346 ⟨(by show _ ≤ 601024; omega), (by show _ ≤ 7293034; omega)⟩) hL (lw_fC hd has) (fun H1 locs hP hL => ?_)
          refine W.eq (g2 := F0 m 349 ls [.int 0]) rfl ?_
          refine va_forget hL ?_
          clear hL
          have hL : ∀ q ∈ ([] : List Loc), (fun q : Nat => s.heap.size ≤ q) q.base := fun q hq => by cases hq
          obtain ⟨hd1, k1⟩ := hP
          obtain ⟨hm, hout, hX, hT⟩ := lw_keepC hd k1 hm hout hX (by omega) hT
          have hd := hd1
          obtain ⟨pa, as, bs, cs, ds, h1, -⟩ := id hd
          obtain ⟨G, ho, -, -⟩ := id hm
          refine lv_istore (lv' := [(5, .int 0), (4, .int (nI i)), (0, .ref bb), (1, .ref a), (2, .ref (z + 12)), (3, .ref (z + 28))]) hx hb d_La_law_349 hl (by decide) rfl (fun ls hl => ?_)
          refine lv_aload_n hx hb d_La_law_351 rfl (lv_at hl 4 rfl) ?_
          refine lv_aload_n hx hb d_La_law_352 rfl (lv_at hl 2 rfl) ?_
          refine lv_iload hx hb d_La_law_353 (lv_at hl 1 rfl) ?_
          refine lv_iconst (v := 1) hx hb d_La_law_355 (by decide) ?_
          refine lv_iadd hx hb d_La_law_356 ?_
          refine x_top (y := nI (i + 1)) (nI_add i 1) ?_
          refine x_sld hx hb hX (i := i + 1) (by omega) (by omega) d_La_law_357 ?_
          refine lv_aload_n hx hb d_La_law_358 rfl (lv_at hl 2 rfl) ?_
          refine lv_iload hx hb d_La_law_359 (lv_at hl 1 rfl) ?_
          refine lv_iconst (v := 2) hx hb d_La_law_361 (by decide) ?_
          refine lv_iadd hx hb d_La_law_362 ?_
          refine x_top (y := nI (i + 2)) (nI_add i 2) ?_
          refine x_sld hx hb hX (i := i + 2) (by omega) (by omega) d_La_law_363 ?_
          refine x_call (F := fun q : Nat => s.heap.size ≤ q) (va_runV (As := [.int (xs (i + 1)), .int (xs (i + 2))]) (rest := []) ⟨hx, hb, hml, hown, htb⟩ (c_Mo_delete l hm hok hj (by omega)) (x_cV 2 htb mw_593 mw_6 mw_596 mw_594 mw_595 rfl rfl (by decide +kernel) ⟨Nat.le_of_ble_eq_true rfl, Nat.le_of_ble_eq_true rfl⟩) (x_preV hK hN ho rfl) rfl rfl hl.1 rfl (lv_room (Nat.le_of_ble_eq_true rfl)) d_La_law_364 ⟨(by show _ ≤ 601024; omega), (by show _ ≤ 7293034; omega)⟩) hL (lw_fM hd has) (fun H2 locs hP hL => ?_)
          refine W.eq (g2 := F0 m 367 ls []) rfl ?_
          refine va_forget hL ?_
          clear hL
          have hL : ∀ q ∈ ([] : List Loc), (fun q : Nat => s.heap.size ≤ q) q.base := fun q hq => by cases hq
          obtain ⟨hm, k2⟩ := hP
          obtain ⟨hd, hout, hX, hT⟩ := lw_keepM hd k2 hout hX (by omega) hT
          obtain ⟨G, ho, -, -⟩ := id hm
          refine lv_aload_n hx hb d_La_law_367 rfl (lv_at hl 4 rfl) ?_
          refine x_callP (va_runV (As := []) (rest := []) ⟨hx, hb, hml, hown, htb⟩ (c_Mo_thrown l hm) (x_cV 0 htb mw_534 mw_6 mw_537 mw_535 mw_536 rfl rfl (by decide +kernel) ⟨Nat.le_of_ble_eq_true rfl, Nat.le_of_ble_eq_true rfl⟩) (x_preV hK hN ho rfl) rfl rfl hl.1 rfl (lv_room (Nat.le_of_ble_eq_true rfl)) d_La_law_368 ⟨(by show _ ≤ 601024; omega), (by show _ ≤ 7293034; omega)⟩) ?_
          refine W.eq (g2 := F0 m 371 ls [.int 0]) rfl ?_
          refine lv_iload hx hb d_La_law_371 (lv_at hl 0 rfl) ?_
          refine lv_icmp_eq (tgt := 378) hx hb d_La_law_373 (by decide) (fun _ => ?_) (fun c9 => absurd rfl c9)
          refine lv_goto (tgt := 623) hx hb d_La_law_378 (by decide) ?_
          exact W.widen (by omega) (by omega) (next _ _ _ _ ⟨hd, ⟨_, hm⟩, ⟨_, hout⟩, hX, hT, hJ2⟩ (lv_sub hl [1, 2, 3, 4, 5] rfl))
  · refine x_call (F := fun q : Nat => s.heap.size ≤ q) (vx_runSW (As := [.ref a, .int (xs (i + 1)), .int (xs (i + 2))]) (rest := []) ⟨hx, hb, hml, hown, htb⟩ (c_La_deleteT1 l hlt0 hd hok) (x_cSW 3 htb mw_434 mw_0 mw_436 mw_435 rfl rfl (by decide +kernel) ⟨Nat.le_of_ble_eq_true rfl, Nat.le_of_ble_eq_true rfl⟩) (x_preSL hK hN hT hNc) rfl rfl hl.1 rfl (lv_room (Nat.le_of_ble_eq_true rfl)) d_La_law_346 ⟨(by show _ ≤ 601024; omega), (by show _ ≤ 7293034; omega)⟩) hL (lw_fC hd has) (fun H1 locs hP hL => ?_)
    refine W.eq (g2 := F0 m 349 ls [.int 1]) rfl ?_
    refine va_forget hL ?_
    clear hL
    have hL : ∀ q ∈ ([] : List Loc), (fun q : Nat => s.heap.size ≤ q) q.base := fun q hq => by cases hq
    have hd1 := hd.ext hP.1 hP.2
    have k1 : g_K (g_M a z) H H1 := ⟨hP.1, fun q hq _ => hP.2 q hq⟩
    obtain ⟨hm, hout, hX, hT⟩ := lw_keepC hd k1 hm hout hX (by omega) hT
    have hd := hd1
    obtain ⟨pa, as, bs, cs, ds, h1, -⟩ := id hd
    obtain ⟨G, ho, -, -⟩ := id hm
    refine lv_istore (lv' := [(5, .int 1), (4, .int (nI i)), (0, .ref bb), (1, .ref a), (2, .ref (z + 12)), (3, .ref (z + 28))]) hx hb d_La_law_349 hl (by decide) rfl (fun ls hl => ?_)
    refine lv_aload_n hx hb d_La_law_351 rfl (lv_at hl 4 rfl) ?_
    refine lv_aload_n hx hb d_La_law_352 rfl (lv_at hl 2 rfl) ?_
    refine lv_iload hx hb d_La_law_353 (lv_at hl 1 rfl) ?_
    refine lv_iconst (v := 1) hx hb d_La_law_355 (by decide) ?_
    refine lv_iadd hx hb d_La_law_356 ?_
    refine x_top (y := nI (i + 1)) (nI_add i 1) ?_
    refine x_sld hx hb hX (i := i + 1) (by omega) (by omega) d_La_law_357 ?_
    refine lv_aload_n hx hb d_La_law_358 rfl (lv_at hl 2 rfl) ?_
    refine lv_iload hx hb d_La_law_359 (lv_at hl 1 rfl) ?_
    refine lv_iconst (v := 2) hx hb d_La_law_361 (by decide) ?_
    refine lv_iadd hx hb d_La_law_362 ?_
    refine x_top (y := nI (i + 2)) (nI_add i 2) ?_
    refine x_sld hx hb hX (i := i + 2) (by omega) (by omega) d_La_law_363 ?_
    refine x_call (F := fun q : Nat => s.heap.size ≤ q) (va_runV (As := [.int (xs (i + 1)), .int (xs (i + 2))]) (rest := []) ⟨hx, hb, hml, hown, htb⟩ (c_Mo_deleteT1 l hm hok) (x_cV 2 htb mw_593 mw_6 mw_596 mw_594 mw_595 rfl rfl (by decide +kernel) ⟨Nat.le_of_ble_eq_true rfl, Nat.le_of_ble_eq_true rfl⟩) (x_preV hK hN ho rfl) rfl rfl hl.1 rfl (lv_room (Nat.le_of_ble_eq_true rfl)) d_La_law_364 ⟨(by show _ ≤ 601024; omega), (by show _ ≤ 7293034; omega)⟩) hL (lw_fM hd has) (fun H2 locs hP hL => ?_)
    refine W.eq (g2 := F0 m 367 ls []) rfl ?_
    refine va_forget hL ?_
    clear hL
    have hL : ∀ q ∈ ([] : List Loc), (fun q : Nat => s.heap.size ≤ q) q.base := fun q hq => by cases hq
    obtain ⟨hm, k2⟩ := hP
    obtain ⟨hd, hout, hX, hT⟩ := lw_keepM hd k2 hout hX (by omega) hT
    obtain ⟨G, ho, -, -⟩ := id hm
    refine lv_aload_n hx hb d_La_law_367 rfl (lv_at hl 4 rfl) ?_
    refine x_callP (va_runV (As := []) (rest := []) ⟨hx, hb, hml, hown, htb⟩ (c_Mo_thrown l hm) (x_cV 0 htb mw_534 mw_6 mw_537 mw_535 mw_536 rfl rfl (by decide +kernel) ⟨Nat.le_of_ble_eq_true rfl, Nat.le_of_ble_eq_true rfl⟩) (x_preV hK hN ho rfl) rfl rfl hl.1 rfl (lv_room (Nat.le_of_ble_eq_true rfl)) d_La_law_368 ⟨(by show _ ≤ 601024; omega), (by show _ ≤ 7293034; omega)⟩) ?_
    refine W.eq (g2 := F0 m 371 ls [.int 1]) rfl ?_
    refine lv_iload hx hb d_La_law_371 (lv_at hl 0 rfl) ?_
    refine lv_icmp_eq (tgt := 378) hx hb d_La_law_373 (by decide) (fun _ => ?_) (fun c9 => absurd rfl c9)
    refine lv_goto (tgt := 623) hx hb d_La_law_378 (by decide) ?_
    exact W.widen (by omega) (by omega) (next _ _ _ _ ⟨hd, ⟨_, hm⟩, ⟨_, hout⟩, hX, hT, hJ⟩ (lv_sub hl [1, 2, 3, 4, 5] rfl))
set_option maxHeartbeats 4000000 in
set_option maxRecDepth 100000 in
theorem lw_5 {p : Program} {l : Launch} {e : Env} {s : State} {m : MethodId} {below : List Frame} {meth : Method} {c : Code} {bb L : Nat} {D : va_G} {A : Nat → ClassId} {a z : Nat} {xs : Nat → Int32} (hlt0 : l.stackTraces = false) (C : lw_C p s m meth c bb L D A a) {t i : Nat} (hi : i + 5 ≤ L) (ht : i = 5 * t) {S : g_S} {M : m_S} {H : Heap} {ls : Array Slot} (I : lw_I D A a z bb L xs s S M H) (hl : lv_has ls 7 [(4, .int (nI i)), (0, .ref bb), (1, .ref a), (2, .ref (z + 12)), (3, .ref (z + 28))])
    (next : ∀ (S : g_S) (M : m_S) (H : Heap) (ls : Array Slot), lw_I D A a z bb L xs s S M H → lv_has ls 7 [(4, .int (nI i)), (0, .ref bb), (1, .ref a), (2, .ref (z + 12)), (3, .ref (z + 28))] → W p l e room_1 s m #[Value.ref bb] below meth c H [] (30 + 6 * (t + 1)) (170000 + 420 * (t + 1)) (lw_Z below #[Value.ref bb] s) (F0 m 623 ls [])) : W p l e room_1 s m #[Value.ref bb] below meth c H [] (30 + 6 * t) (170000 + 420 * t) (lw_Z below #[Value.ref bb] s) (F0 m 381 ls []) := by
  obtain ⟨hx, hb, hr, hml, hown, htb, hK, hN, hNc, hlocks, hbl, has, hLm⟩ := C
  obtain ⟨hd, ⟨th, hm⟩, ⟨fo, hout⟩, hX, hT, hJ⟩ := I
  obtain ⟨haz, hzs⟩ := hd.lt
  obtain ⟨pa, as, bs, cs, ds, h1, -⟩ := id hd
  obtain ⟨G, ho, -, -⟩ := id hm
  have hL : ∀ q ∈ ([] : List Loc), (fun q : Nat => s.heap.size ≤ q) q.base := fun q hq => by cases hq
  refine lv_aload_n hx hb d_La_law_381 rfl (lv_at hl 2 rfl) ?_
  obtain ⟨l1, l2⟩ := hJ.lens
  refine x_call (F := fun q : Nat => s.heap.size ≤ q) (va_runV (As := []) (rest := []) ⟨hx, hb, hml, hown, htb⟩ (c_Bd_sync l hd) (x_cV 0 htb mw_115 mw_1 mw_118 mw_116 mw_117 rfl rfl (by decide +kernel) ⟨Nat.le_of_ble_eq_true rfl, Nat.le_of_ble_eq_true rfl⟩) (x_preV hK hN h1 rfl) rfl rfl hl.1 rfl (lv_room (Nat.le_of_ble_eq_true rfl)) d_La_law_382 ⟨(by show _ ≤ 601024; omega), (by show _ ≤ 7293034; omega)⟩) hL (lw_fC hd has) (fun H1 locs hP hL => ?_)
  refine W.eq (g2 := F0 m 385 ls [.int (nI S.2.2.2.2.2.1.length)]) rfl ?_
  refine va_forget hL ?_
  clear hL
  have hL : ∀ q ∈ ([] : List Loc), (fun q : Nat => s.heap.size ≤ q) q.base := fun q hq => by cases hq
  obtain ⟨hd1, k1⟩ := hP
  obtain ⟨hm, hout, hX, hT⟩ := lw_keepC hd k1 hm hout hX (by omega) hT
  have hd := hd1
  obtain ⟨pa, as, bs, cs, ds, h1, -⟩ := id hd
  obtain ⟨G, ho, -, -⟩ := id hm
  refine lv_aload_n hx hb d_La_law_385 rfl (lv_at hl 3 rfl) ?_
  refine x_call (F := fun q : Nat => s.heap.size ≤ q) (va_runV (As := []) (rest := [.int (nI S.2.2.2.2.2.1.length)]) ⟨hx, hb, hml, hown, htb⟩ (c_Mo_sync l hm) (x_cV 0 htb mw_597 mw_6 mw_600 mw_598 mw_599 rfl rfl (by decide +kernel) ⟨Nat.le_of_ble_eq_true rfl, Nat.le_of_ble_eq_true rfl⟩) (x_preV hK hN ho rfl) rfl rfl hl.1 rfl (lv_room (Nat.le_of_ble_eq_true rfl)) d_La_law_386 ⟨(by show _ ≤ 601024; omega), (by show _ ≤ 7293034; omega)⟩) hL (lw_fM hd has) (fun H2 locs hP hL => ?_)
  refine W.eq (g2 := F0 m 389 ls [.int (nI M.2.2.2.2.1.length), .int (nI S.2.2.2.2.2.1.length)]) rfl ?_
  refine va_forget hL ?_
  clear hL
  have hL : ∀ q ∈ ([] : List Loc), (fun q : Nat => s.heap.size ≤ q) q.base := fun q hq => by cases hq
  obtain ⟨hm, k2⟩ := hP
  obtain ⟨hd, hout, hX, hT⟩ := lw_keepM hd k2 hout hX (by omega) hT
  obtain ⟨G, ho, -, -⟩ := id hm
  refine lv_icmp_eq (tgt := 623) hx hb d_La_law_389 (by decide) (fun _ => ?_) (fun c9 => absurd (by rw [l1]) c9)
  exact W.widen (by omega) (by omega) (next _ _ _ _ ⟨hd, ⟨_, hm⟩, ⟨_, hout⟩, hX, hT, hJ.sync⟩ (lv_sub hl [0, 1, 2, 3, 4] rfl))
set_option maxHeartbeats 4000000 in
set_option maxRecDepth 100000 in
theorem lw_6 {p : Program} {l : Launch} {e : Env} {s : State} {m : MethodId} {below : List Frame} {meth : Method} {c : Code} {bb L : Nat} {D : va_G} {A : Nat → ClassId} {a z : Nat} {xs : Nat → Int32} (hlt0 : l.stackTraces = false) (C : lw_C p s m meth c bb L D A a) {t i : Nat} (hi : i + 5 ≤ L) (ht : i = 5 * t) {S : g_S} {M : m_S} {H : Heap} {ls : Array Slot} (I : lw_I D A a z bb L xs s S M H) (hl : lv_has ls 7 [(4, .int (nI i)), (0, .ref bb), (1, .ref a), (2, .ref (z + 12)), (3, .ref (z + 28))])
    (next : ∀ (S : g_S) (M : m_S) (H : Heap) (ls : Array Slot), lw_I D A a z bb L xs s S M H → lv_has ls 7 [(4, .int (nI i)), (0, .ref bb), (1, .ref a), (2, .ref (z + 12)), (3, .ref (z + 28))] → W p l e room_1 s m #[Value.ref bb] below meth c H [] (30 + 6 * (t + 1)) (170000 + 420 * (t + 1)) (lw_Z below #[Value.ref bb] s) (F0 m 623 ls [])) : W p l e room_1 s m #[Value.ref bb] below meth c H [] (30 + 6 * t) (170000 + 420 * t) (lw_Z below #[Value.ref bb] s) (F0 m 394 ls []) := by
  obtain ⟨hx, hb, hr, hml, hown, htb, hK, hN, hNc, hlocks, hbl, has, hLm⟩ := C
  obtain ⟨hd, ⟨th, hm⟩, ⟨fo, hout⟩, hX, hT, hJ⟩ := I
  obtain ⟨haz, hzs⟩ := hd.lt
  obtain ⟨pa, as, bs, cs, ds, h1, -⟩ := id hd
  obtain ⟨G, ho, -, -⟩ := id hm
  have hL : ∀ q ∈ ([] : List Loc), (fun q : Nat => s.heap.size ≤ q) q.base := fun q hq => by cases hq
  refine lv_aload_n hx hb d_La_law_394 rfl (lv_at hl 2 rfl) ?_
  refine lv_aload_n hx hb d_La_law_395 rfl (lv_at hl 1 rfl) ?_
  refine lv_iload hx hb d_La_law_396 (lv_at hl 0 rfl) ?_
  refine lv_iconst (v := 1) hx hb d_La_law_398 (by decide) ?_
  refine lv_iadd hx hb d_La_law_399 ?_
  refine x_top (y := nI (i + 1)) (nI_add i 1) ?_
  refine x_sld hx hb hX (i := i + 1) (by omega) (by omega) d_La_law_400 ?_
  refine lv_aload_n hx hb d_La_law_401 rfl (lv_at hl 4 rfl) ?_
  obtain ⟨l1, l2⟩ := hJ.lens
  by_cases hn : xs (i + 1) < 0
  · refine x_call (F := fun q : Nat => s.heap.size ≤ q) (vx_runSW (As := [.ref a, .int (xs (i + 1)), .ref (z + 28)]) (rest := []) ⟨hx, hb, hml, hown, htb⟩ (c_La_breakOffT l hlt0 hd hn) (x_cSW 3 htb mw_441 mw_0 mw_443 mw_442 rfl rfl (by decide +kernel) ⟨Nat.le_of_ble_eq_true rfl, Nat.le_of_ble_eq_true rfl⟩) (x_preSL hK hN hT hNc) rfl rfl hl.1 rfl (lv_room (Nat.le_of_ble_eq_true rfl)) d_La_law_402 ⟨(by show _ ≤ 601024; omega), (by show _ ≤ 7293034; omega)⟩) hL (lw_fC hd has) (fun H1 locs hP hL => ?_)
    refine W.eq (g2 := F0 m 405 ls [.int 1]) rfl ?_
    refine va_forget hL ?_
    clear hL
    have hL : ∀ q ∈ ([] : List Loc), (fun q : Nat => s.heap.size ≤ q) q.base := fun q hq => by cases hq
    have hd1 := hd.ext hP.1 hP.2
    have k1 : g_K (g_M a z) H H1 := ⟨hP.1, fun q hq _ => hP.2 q hq⟩
    obtain ⟨hm, hout, hX, hT⟩ := lw_keepC hd k1 hm hout hX (by omega) hT
    have hd := hd1
    obtain ⟨pa, as, bs, cs, ds, h1, -⟩ := id hd
    obtain ⟨G, ho, -, -⟩ := id hm
    refine lv_istore (lv' := [(5, .int 1), (4, .int (nI i)), (0, .ref bb), (1, .ref a), (2, .ref (z + 12)), (3, .ref (z + 28))]) hx hb d_La_law_405 hl (by decide) rfl (fun ls hl => ?_)
    refine lv_aload_n hx hb d_La_law_407 rfl (lv_at hl 4 rfl) ?_
    refine lv_aload_n hx hb d_La_law_408 rfl (lv_at hl 2 rfl) ?_
    refine lv_iload hx hb d_La_law_409 (lv_at hl 1 rfl) ?_
    refine lv_iconst (v := 1) hx hb d_La_law_411 (by decide) ?_
    refine lv_iadd hx hb d_La_law_412 ?_
    refine x_top (y := nI (i + 1)) (nI_add i 1) ?_
    refine x_sld hx hb hX (i := i + 1) (by omega) (by omega) d_La_law_413 ?_
    refine x_call (F := fun q : Nat => s.heap.size ≤ q) (va_runV (As := [.int (xs (i + 1))]) (rest := []) ⟨hx, hb, hml, hown, htb⟩ (c_Mo_breakOffT l hm hn) (x_cV 1 htb mw_605 mw_6 mw_608 mw_606 mw_607 rfl rfl (by decide +kernel) ⟨Nat.le_of_ble_eq_true rfl, Nat.le_of_ble_eq_true rfl⟩) (x_preV hK hN ho rfl) rfl rfl hl.1 rfl (lv_room (Nat.le_of_ble_eq_true rfl)) d_La_law_414 ⟨(by show _ ≤ 601024; omega), (by show _ ≤ 7293034; omega)⟩) hL (lw_fM hd has) (fun H2 locs hP hL => ?_)
    refine W.eq (g2 := F0 m 417 ls [.int 0]) rfl ?_
    refine va_forget hL ?_
    clear hL
    have hL : ∀ q ∈ ([] : List Loc), (fun q : Nat => s.heap.size ≤ q) q.base := fun q hq => by cases hq
    obtain ⟨hm, k2⟩ := hP
    obtain ⟨hd, hout, hX, hT⟩ := lw_keepM hd k2 hout hX (by omega) hT
    obtain ⟨G, ho, -, -⟩ := id hm
    refine lv_istore (lv' := [(6, .int 0), (5, .int 1), (4, .int (nI i)), (0, .ref bb), (1, .ref a), (2, .ref (z + 12)), (3, .ref (z + 28))]) hx hb d_La_law_417 hl (by decide) rfl (fun ls hl => ?_)
    refine lv_aload_n hx hb d_La_law_419 rfl (lv_at hl 5 rfl) ?_
    refine x_callP (va_runV (As := []) (rest := []) ⟨hx, hb, hml, hown, htb⟩ (c_Mo_thrown l hm) (x_cV 0 htb mw_534 mw_6 mw_537 mw_535 mw_536 rfl rfl (by decide +kernel) ⟨Nat.le_of_ble_eq_true rfl, Nat.le_of_ble_eq_true rfl⟩) (x_preV hK hN ho rfl) rfl rfl hl.1 rfl (lv_room (Nat.le_of_ble_eq_true rfl)) d_La_law_420 ⟨(by show _ ≤ 601024; omega), (by show _ ≤ 7293034; omega)⟩) ?_
    refine W.eq (g2 := F0 m 423 ls [.int 1]) rfl ?_
    refine lv_iload hx hb d_La_law_423 (lv_at hl 1 rfl) ?_
    refine lv_icmp_eq (tgt := 430) hx hb d_La_law_425 (by decide) (fun _ => ?_) (fun c9 => absurd rfl c9)
    refine lv_iload hx hb d_La_law_430 (lv_at hl 1 rfl) ?_
    refine lv_if_ne (tgt := 447) hx hb d_La_law_432 (by decide) (fun _ => ?_) (fun c9 => absurd c9 (by decide))
    refine lv_goto (tgt := 623) hx hb d_La_law_447 (by decide) ?_
    exact W.widen (by omega) (by omega) (next _ _ _ _ ⟨hd, ⟨_, hm⟩, ⟨_, hout⟩, hX, hT, hJ⟩ (lv_sub hl [2, 3, 4, 5, 6] rfl))
  · refine x_call (F := fun q : Nat => s.heap.size ≤ q) (vx_runSW (As := [.ref a, .int (xs (i + 1)), .ref (z + 28)]) (rest := []) ⟨hx, hb, hml, hown, htb⟩ (c_La_breakOff l hd hout hn) (x_cSW 3 htb mw_441 mw_0 mw_443 mw_442 rfl rfl (by decide +kernel) ⟨Nat.le_of_ble_eq_true rfl, Nat.le_of_ble_eq_true rfl⟩) (x_preSL hK hN hT hNc) rfl rfl hl.1 rfl (lv_room (Nat.le_of_ble_eq_true rfl)) d_La_law_402 ⟨(by show _ ≤ 601024; omega), (by show _ ≤ 7293034; omega)⟩) hL (lw_fC hd has) (fun H1 locs hP hL => ?_)
    refine W.eq (g2 := F0 m 405 ls [.int 0]) rfl ?_
    refine va_forget hL ?_
    clear hL
    have hL : ∀ q ∈ ([] : List Loc), (fun q : Nat => s.heap.size ≤ q) q.base := fun q hq => by cases hq
    obtain ⟨hd1, ⟨fo1, hout, hfo⟩, k1⟩ := hP
    obtain ⟨hm, hX, hT⟩ := lw_keepO hd k1 hm hX (by omega) hT
    have hd := hd1
    obtain ⟨pa, as, bs, cs, ds, h1, -⟩ := id hd
    obtain ⟨G, ho, -, -⟩ := id hm
    refine lv_istore (lv' := [(5, .int 0), (4, .int (nI i)), (0, .ref bb), (1, .ref a), (2, .ref (z + 12)), (3, .ref (z + 28))]) hx hb d_La_law_405 hl (by decide) rfl (fun ls hl => ?_)
    refine lv_aload_n hx hb d_La_law_407 rfl (lv_at hl 4 rfl) ?_
    refine lv_aload_n hx hb d_La_law_408 rfl (lv_at hl 2 rfl) ?_
    refine lv_iload hx hb d_La_law_409 (lv_at hl 1 rfl) ?_
    refine lv_iconst (v := 1) hx hb d_La_law_411 (by decide) ?_
    refine lv_iadd hx hb d_La_law_412 ?_
    refine x_top (y := nI (i + 1)) (nI_add i 1) ?_
    refine x_sld hx hb hX (i := i + 1) (by omega) (by omega) d_La_law_413 ?_
    refine x_call (F := fun q : Nat => s.heap.size ≤ q) (va_runV (As := [.int (xs (i + 1))]) (rest := []) ⟨hx, hb, hml, hown, htb⟩ (c_Mo_breakOff l hm hn (j_oks hJ.2.2.2.1.1 hJ.2.2.2.1.2 hJ.2.2.2.2.1)) (x_cV 1 htb mw_605 mw_6 mw_608 mw_606 mw_607 rfl rfl (by decide +kernel) ⟨Nat.le_of_ble_eq_true rfl, Nat.le_of_ble_eq_true rfl⟩) (x_preV hK hN ho rfl) rfl rfl hl.1 rfl (lv_room (Nat.le_of_ble_eq_true rfl)) d_La_law_414 ⟨(by show _ ≤ 601024; omega), (by show _ ≤ 7293034; omega)⟩) hL (lw_fM hd has) (fun H2 locs hP hL => ?_)
    refine W.eq (g2 := F0 m 417 ls [.int (nI (min (xs (i + 1)).toNatClampNeg M.2.2.2.2.1.length))]) rfl ?_
    refine va_forget hL ?_
    clear hL
    have hL : ∀ q ∈ ([] : List Loc), (fun q : Nat => s.heap.size ≤ q) q.base := fun q hq => by cases hq
    obtain ⟨hm, k2⟩ := hP
    obtain ⟨hd, hout, hX, hT⟩ := lw_keepM hd k2 hout hX (by omega) hT
    obtain ⟨G, ho, -, -⟩ := id hm
    refine lv_istore (lv' := [(6, .int (nI (min (xs (i + 1)).toNatClampNeg M.2.2.2.2.1.length))), (5, .int 0), (4, .int (nI i)), (0, .ref bb), (1, .ref a), (2, .ref (z + 12)), (3, .ref (z + 28))]) hx hb d_La_law_417 hl (by decide) rfl (fun ls hl => ?_)
    refine lv_aload_n hx hb d_La_law_419 rfl (lv_at hl 5 rfl) ?_
    refine x_callP (va_runV (As := []) (rest := []) ⟨hx, hb, hml, hown, htb⟩ (c_Mo_thrown l hm) (x_cV 0 htb mw_534 mw_6 mw_537 mw_535 mw_536 rfl rfl (by decide +kernel) ⟨Nat.le_of_ble_eq_true rfl, Nat.le_of_ble_eq_true rfl⟩) (x_preV hK hN ho rfl) rfl rfl hl.1 rfl (lv_room (Nat.le_of_ble_eq_true rfl)) d_La_law_420 ⟨(by show _ ≤ 601024; omega), (by show _ ≤ 7293034; omega)⟩) ?_
    refine W.eq (g2 := F0 m 423 ls [.int 0]) rfl ?_
    refine lv_iload hx hb d_La_law_423 (lv_at hl 1 rfl) ?_
    refine lv_icmp_eq (tgt := 430) hx hb d_La_law_425 (by decide) (fun _ => ?_) (fun c9 => absurd rfl c9)
    refine lv_iload hx hb d_La_law_430 (lv_at hl 1 rfl) ?_
    refine lv_if_ne (tgt := 447) hx hb d_La_law_432 (by decide) (fun c9 => absurd rfl c9) (fun _ => ?_)
    refine lv_aload_n hx hb d_La_law_435 rfl (lv_at hl 6 rfl) ?_
    refine lv_iconst (v := 0) hx hb d_La_law_436 (by decide) ?_
    refine x_lald hx hb hK 4 hout rfl (i := 0) (vp_in_nI (n := 0) (by decide) (by decide)) d_La_law_437 ?_
    refine x_topl (y := (nI (min (xs (i + 1)).toNatClampNeg S.2.2.2.2.2.1.length)).toInt64) (hfo) ?_
    refine lv_iload hx hb d_La_law_438 (lv_at hl 0 rfl) ?_
    refine lv_i2l (v := (nI (min (xs (i + 1)).toNatClampNeg M.2.2.2.2.1.length)).toInt64) hx hb d_La_law_440 rfl ?_
    refine x_topl (y := (nI (min (xs (i + 1)).toNatClampNeg S.2.2.2.2.2.1.length)).toInt64) (by rw [l1]) ?_
    refine x_lcmpE hx hb d_La_law_441 ?_
    refine lv_if_eq (tgt := 447) hx hb d_La_law_442 (by decide) (fun _ => ?_) (fun c9 => absurd rfl c9)
    rw [l1] at hm
    refine lv_goto (tgt := 623) hx hb d_La_law_447 (by decide) ?_
    exact W.widen (by omega) (by omega) (next _ _ _ _ ⟨hd, ⟨_, hm⟩, ⟨_, hout⟩, hX, hT, hJ.brk _ (Nat.min_le_right _ _)⟩ (lv_sub hl [2, 3, 4, 5, 6] rfl))
set_option maxHeartbeats 4000000 in
set_option maxRecDepth 100000 in
theorem lw_7 {p : Program} {l : Launch} {e : Env} {s : State} {m : MethodId} {below : List Frame} {meth : Method} {c : Code} {bb L : Nat} {D : va_G} {A : Nat → ClassId} {a z : Nat} {xs : Nat → Int32} (hlt0 : l.stackTraces = false) (C : lw_C p s m meth c bb L D A a) {t i : Nat} (hi : i + 5 ≤ L) (ht : i = 5 * t) {S : g_S} {M : m_S} {H : Heap} {ls : Array Slot} (I : lw_I D A a z bb L xs s S M H) (hl : lv_has ls 7 [(4, .int (nI i)), (0, .ref bb), (1, .ref a), (2, .ref (z + 12)), (3, .ref (z + 28))])
    (next : ∀ (S : g_S) (M : m_S) (H : Heap) (ls : Array Slot), lw_I D A a z bb L xs s S M H → lv_has ls 7 [(4, .int (nI i)), (0, .ref bb), (1, .ref a), (2, .ref (z + 12)), (3, .ref (z + 28))] → W p l e room_1 s m #[Value.ref bb] below meth c H [] (30 + 6 * (t + 1)) (170000 + 420 * (t + 1)) (lw_Z below #[Value.ref bb] s) (F0 m 623 ls [])) : W p l e room_1 s m #[Value.ref bb] below meth c H [] (30 + 6 * t) (170000 + 420 * t) (lw_Z below #[Value.ref bb] s) (F0 m 450 ls []) := by
  obtain ⟨hx, hb, hr, hml, hown, htb, hK, hN, hNc, hlocks, hbl, has, hLm⟩ := C
  obtain ⟨hd, ⟨th, hm⟩, ⟨fo, hout⟩, hX, hT, hJ⟩ := I
  obtain ⟨haz, hzs⟩ := hd.lt
  obtain ⟨pa, as, bs, cs, ds, h1, -⟩ := id hd
  obtain ⟨G, ho, -, -⟩ := id hm
  have hL : ∀ q ∈ ([] : List Loc), (fun q : Nat => s.heap.size ≤ q) q.base := fun q hq => by cases hq
  refine lv_aload_n hx hb d_La_law_450 rfl (lv_at hl 2 rfl) ?_
  refine lv_aload_n hx hb d_La_law_451 rfl (lv_at hl 1 rfl) ?_
  refine lv_iload hx hb d_La_law_452 (lv_at hl 0 rfl) ?_
  refine lv_iconst (v := 1) hx hb d_La_law_454 (by decide) ?_
  refine lv_iadd hx hb d_La_law_455 ?_
  refine x_top (y := nI (i + 1)) (nI_add i 1) ?_
  refine x_sld hx hb hX (i := i + 1) (by omega) (by omega) d_La_law_456 ?_
  refine lv_aload_n hx hb d_La_law_457 rfl (lv_at hl 1 rfl) ?_
  refine lv_iload hx hb d_La_law_458 (lv_at hl 0 rfl) ?_
  refine lv_iconst (v := 2) hx hb d_La_law_460 (by decide) ?_
  refine lv_iadd hx hb d_La_law_461 ?_
  refine x_top (y := nI (i + 2)) (nI_add i 2) ?_
  refine x_sld hx hb hX (i := i + 2) (by omega) (by omega) d_La_law_462 ?_
  refine x_call (F := fun q : Nat => s.heap.size ≤ q) (va_runV (As := [.int (xs (i + 1)), .int (xs (i + 2))]) (rest := []) ⟨hx, hb, hml, hown, htb⟩ (c_Bd_size l hd (xs (i + 1)) (xs (i + 2))) (x_cV 2 htb mw_127 mw_1 mw_130 mw_128 mw_129 rfl rfl (by decide +kernel) ⟨Nat.le_of_ble_eq_true rfl, Nat.le_of_ble_eq_true rfl⟩) (x_preV hK hN h1 rfl) rfl rfl hl.1 rfl (lv_room (Nat.le_of_ble_eq_true rfl)) d_La_law_463 ⟨(by show _ ≤ 601024; omega), (by show _ ≤ 7293034; omega)⟩) hL (lw_fC hd has) (fun H1 locs hP hL => ?_)
  refine W.eq (g2 := F0 m 466 ls [.int (g_szv (g_get S.2.2.1 (xs (i + 1), xs (i + 2), S.2.1)))]) rfl ?_
  refine va_forget hL ?_
  clear hL
  have hL : ∀ q ∈ ([] : List Loc), (fun q : Nat => s.heap.size ≤ q) q.base := fun q hq => by cases hq
  obtain ⟨hd1, k1⟩ := hP
  obtain ⟨hm, hout, hX, hT⟩ := lw_keepC hd k1 hm hout hX (by omega) hT
  have hd := hd1
  obtain ⟨pa, as, bs, cs, ds, h1, -⟩ := id hd
  obtain ⟨G, ho, -, -⟩ := id hm
  refine lv_aload_n hx hb d_La_law_466 rfl (lv_at hl 3 rfl) ?_
  refine lv_aload_n hx hb d_La_law_467 rfl (lv_at hl 1 rfl) ?_
  refine lv_iload hx hb d_La_law_468 (lv_at hl 0 rfl) ?_
  refine lv_iconst (v := 1) hx hb d_La_law_470 (by decide) ?_
  refine lv_iadd hx hb d_La_law_471 ?_
  refine x_top (y := nI (i + 1)) (nI_add i 1) ?_
  refine x_sld hx hb hX (i := i + 1) (by omega) (by omega) d_La_law_472 ?_
  refine lv_aload_n hx hb d_La_law_473 rfl (lv_at hl 1 rfl) ?_
  refine lv_iload hx hb d_La_law_474 (lv_at hl 0 rfl) ?_
  refine lv_iconst (v := 2) hx hb d_La_law_476 (by decide) ?_
  refine lv_iadd hx hb d_La_law_477 ?_
  refine x_top (y := nI (i + 2)) (nI_add i 2) ?_
  refine x_sld hx hb hX (i := i + 2) (by omega) (by omega) d_La_law_478 ?_
  refine x_call (F := fun q : Nat => s.heap.size ≤ q) (va_runV (As := [.int (xs (i + 1)), .int (xs (i + 2))]) (rest := [.int (g_szv (g_get S.2.2.1 (xs (i + 1), xs (i + 2), S.2.1)))]) ⟨hx, hb, hml, hown, htb⟩ (c_Mo_size l hm (xs (i + 1)) (xs (i + 2))) (x_cV 2 htb mw_609 mw_6 mw_612 mw_610 mw_611 rfl rfl (by decide +kernel) ⟨Nat.le_of_ble_eq_true rfl, Nat.le_of_ble_eq_true rfl⟩) (x_preV hK hN ho rfl) rfl rfl hl.1 rfl (lv_room (Nat.le_of_ble_eq_true rfl)) d_La_law_479 ⟨(by show _ ≤ 601024; omega), (by show _ ≤ 7293034; omega)⟩) hL (lw_fM hd has) (fun H2 locs hP hL => ?_)
  refine W.eq (g2 := F0 m 482 ls [.int (g_szv (g_get M.2.2.1 (xs (i + 1), xs (i + 2), M.2.1))), .int (g_szv (g_get S.2.2.1 (xs (i + 1), xs (i + 2), S.2.1)))]) rfl ?_
  refine va_forget hL ?_
  clear hL
  have hL : ∀ q ∈ ([] : List Loc), (fun q : Nat => s.heap.size ≤ q) q.base := fun q hq => by cases hq
  obtain ⟨hm, k2⟩ := hP
  obtain ⟨hd, hout, hX, hT⟩ := lw_keepM hd k2 hout hX (by omega) hT
  obtain ⟨G, ho, -, -⟩ := id hm
  refine lv_icmp_eq (tgt := 623) hx hb d_La_law_482 (by decide) (fun _ => ?_) (fun c9 => absurd (by rw [hJ.get]) c9)
  exact W.widen (by omega) (by omega) (next _ _ _ _ ⟨hd, ⟨_, hm⟩, ⟨_, hout⟩, hX, hT, hJ⟩ (lv_sub hl [0, 1, 2, 3, 4] rfl))
set_option maxHeartbeats 4000000 in
set_option maxRecDepth 100000 in
theorem lw_8 {p : Program} {l : Launch} {e : Env} {s : State} {m : MethodId} {below : List Frame} {meth : Method} {c : Code} {bb L : Nat} {D : va_G} {A : Nat → ClassId} {a z : Nat} {xs : Nat → Int32} (hlt0 : l.stackTraces = false) (C : lw_C p s m meth c bb L D A a) {t i : Nat} (hi : i + 5 ≤ L) (ht : i = 5 * t) {S : g_S} {M : m_S} {H : Heap} {ls : Array Slot} (I : lw_I D A a z bb L xs s S M H) (hl : lv_has ls 7 [(4, .int (nI i)), (0, .ref bb), (1, .ref a), (2, .ref (z + 12)), (3, .ref (z + 28))])
    (next : ∀ (S : g_S) (M : m_S) (H : Heap) (ls : Array Slot), lw_I D A a z bb L xs s S M H → lv_has ls 7 [(4, .int (nI i)), (0, .ref bb), (1, .ref a), (2, .ref (z + 12)), (3, .ref (z + 28))] → W p l e room_1 s m #[Value.ref bb] below meth c H [] (30 + 6 * (t + 1)) (170000 + 420 * (t + 1)) (lw_Z below #[Value.ref bb] s) (F0 m 623 ls [])) : W p l e room_1 s m #[Value.ref bb] below meth c H [] (30 + 6 * t) (170000 + 420 * t) (lw_Z below #[Value.ref bb] s) (F0 m 487 ls []) := by
  obtain ⟨hx, hb, hr, hml, hown, htb, hK, hN, hNc, hlocks, hbl, has, hLm⟩ := C
  obtain ⟨hd, ⟨th, hm⟩, ⟨fo, hout⟩, hX, hT, hJ⟩ := I
  obtain ⟨haz, hzs⟩ := hd.lt
  obtain ⟨pa, as, bs, cs, ds, h1, -⟩ := id hd
  obtain ⟨G, ho, -, -⟩ := id hm
  have hL : ∀ q ∈ ([] : List Loc), (fun q : Nat => s.heap.size ≤ q) q.base := fun q hq => by cases hq
  refine lv_aload_n hx hb d_La_law_487 rfl (lv_at hl 2 rfl) ?_
  refine lv_aload_n hx hb d_La_law_488 rfl (lv_at hl 1 rfl) ?_
  refine lv_iload hx hb d_La_law_489 (lv_at hl 0 rfl) ?_
  refine lv_iconst (v := 1) hx hb d_La_law_491 (by decide) ?_
  refine lv_iadd hx hb d_La_law_492 ?_
  refine x_top (y := nI (i + 1)) (nI_add i 1) ?_
  refine x_sld hx hb hX (i := i + 1) (by omega) (by omega) d_La_law_493 ?_
  refine lv_aload_n hx hb d_La_law_494 rfl (lv_at hl 1 rfl) ?_
  refine lv_iload hx hb d_La_law_495 (lv_at hl 0 rfl) ?_
  refine lv_iconst (v := 2) hx hb d_La_law_497 (by decide) ?_
  refine lv_iadd hx hb d_La_law_498 ?_
  refine x_top (y := nI (i + 2)) (nI_add i 2) ?_
  refine x_sld hx hb hX (i := i + 2) (by omega) (by omega) d_La_law_499 ?_
  refine lv_aload_n hx hb d_La_law_500 rfl (lv_at hl 1 rfl) ?_
  refine lv_iload hx hb d_La_law_501 (lv_at hl 0 rfl) ?_
  refine lv_iconst (v := 3) hx hb d_La_law_503 (by decide) ?_
  refine lv_iadd hx hb d_La_law_504 ?_
  refine x_top (y := nI (i + 3)) (nI_add i 3) ?_
  refine x_sld hx hb hX (i := i + 3) (by omega) (by omega) d_La_law_505 ?_
  refine x_call (F := fun q : Nat => s.heap.size ≤ q) (va_runV (As := [.int (xs (i + 1)), .int (xs (i + 2)), .int (xs (i + 3))]) (rest := []) ⟨hx, hb, hml, hown, htb⟩ (c_Bd_at l hd (xs (i + 1)) (xs (i + 2)) (xs (i + 3))) (x_cV 3 htb mw_181 mw_1 mw_184 mw_182 mw_183 rfl rfl (by decide +kernel) ⟨Nat.le_of_ble_eq_true rfl, Nat.le_of_ble_eq_true rfl⟩) (x_preV hK hN h1 rfl) rfl rfl hl.1 rfl (lv_room (Nat.le_of_ble_eq_true rfl)) d_La_law_506 ⟨(by show _ ≤ 601024; omega), (by show _ ≤ 7293034; omega)⟩) hL (lw_fC hd has) (fun H1 locs hP hL => ?_)
  refine W.eq (g2 := F0 m 509 ls [.int (g_atv (g_get S.2.2.1 (xs (i + 1), xs (i + 2), S.2.1)) (xs (i + 3)))]) rfl ?_
  refine va_forget hL ?_
  clear hL
  have hL : ∀ q ∈ ([] : List Loc), (fun q : Nat => s.heap.size ≤ q) q.base := fun q hq => by cases hq
  obtain ⟨hd1, k1⟩ := hP
  obtain ⟨hm, hout, hX, hT⟩ := lw_keepC hd k1 hm hout hX (by omega) hT
  have hd := hd1
  obtain ⟨pa, as, bs, cs, ds, h1, -⟩ := id hd
  obtain ⟨G, ho, -, -⟩ := id hm
  refine lv_aload_n hx hb d_La_law_509 rfl (lv_at hl 3 rfl) ?_
  refine lv_aload_n hx hb d_La_law_510 rfl (lv_at hl 1 rfl) ?_
  refine lv_iload hx hb d_La_law_511 (lv_at hl 0 rfl) ?_
  refine lv_iconst (v := 1) hx hb d_La_law_513 (by decide) ?_
  refine lv_iadd hx hb d_La_law_514 ?_
  refine x_top (y := nI (i + 1)) (nI_add i 1) ?_
  refine x_sld hx hb hX (i := i + 1) (by omega) (by omega) d_La_law_515 ?_
  refine lv_aload_n hx hb d_La_law_516 rfl (lv_at hl 1 rfl) ?_
  refine lv_iload hx hb d_La_law_517 (lv_at hl 0 rfl) ?_
  refine lv_iconst (v := 2) hx hb d_La_law_519 (by decide) ?_
  refine lv_iadd hx hb d_La_law_520 ?_
  refine x_top (y := nI (i + 2)) (nI_add i 2) ?_
  refine x_sld hx hb hX (i := i + 2) (by omega) (by omega) d_La_law_521 ?_
  refine lv_aload_n hx hb d_La_law_522 rfl (lv_at hl 1 rfl) ?_
  refine lv_iload hx hb d_La_law_523 (lv_at hl 0 rfl) ?_
  refine lv_iconst (v := 3) hx hb d_La_law_525 (by decide) ?_
  refine lv_iadd hx hb d_La_law_526 ?_
  refine x_top (y := nI (i + 3)) (nI_add i 3) ?_
  refine x_sld hx hb hX (i := i + 3) (by omega) (by omega) d_La_law_527 ?_
  refine x_call (F := fun q : Nat => s.heap.size ≤ q) (va_runV (As := [.int (xs (i + 1)), .int (xs (i + 2)), .int (xs (i + 3))]) (rest := [.int (g_atv (g_get S.2.2.1 (xs (i + 1), xs (i + 2), S.2.1)) (xs (i + 3)))]) ⟨hx, hb, hml, hown, htb⟩ (c_Mo_at l hm (xs (i + 1)) (xs (i + 2)) (xs (i + 3))) (x_cV 3 htb mw_613 mw_6 mw_616 mw_614 mw_615 rfl rfl (by decide +kernel) ⟨Nat.le_of_ble_eq_true rfl, Nat.le_of_ble_eq_true rfl⟩) (x_preV hK hN ho rfl) rfl rfl hl.1 rfl (lv_room (Nat.le_of_ble_eq_true rfl)) d_La_law_528 ⟨(by show _ ≤ 601024; omega), (by show _ ≤ 7293034; omega)⟩) hL (lw_fM hd has) (fun H2 locs hP hL => ?_)
  refine W.eq (g2 := F0 m 531 ls [.int (g_atv (g_get M.2.2.1 (xs (i + 1), xs (i + 2), M.2.1)) (xs (i + 3))), .int (g_atv (g_get S.2.2.1 (xs (i + 1), xs (i + 2), S.2.1)) (xs (i + 3)))]) rfl ?_
  refine va_forget hL ?_
  clear hL
  have hL : ∀ q ∈ ([] : List Loc), (fun q : Nat => s.heap.size ≤ q) q.base := fun q hq => by cases hq
  obtain ⟨hm, k2⟩ := hP
  obtain ⟨hd, hout, hX, hT⟩ := lw_keepM hd k2 hout hX (by omega) hT
  obtain ⟨G, ho, -, -⟩ := id hm
  refine lv_icmp_eq (tgt := 623) hx hb d_La_law_531 (by decide) (fun _ => ?_) (fun c9 => absurd (by rw [hJ.get]) c9)
  exact W.widen (by omega) (by omega) (next _ _ _ _ ⟨hd, ⟨_, hm⟩, ⟨_, hout⟩, hX, hT, hJ⟩ (lv_sub hl [0, 1, 2, 3, 4] rfl))
set_option maxHeartbeats 4000000 in
set_option maxRecDepth 100000 in
theorem lw_9 {p : Program} {l : Launch} {e : Env} {s : State} {m : MethodId} {below : List Frame} {meth : Method} {c : Code} {bb L : Nat} {D : va_G} {A : Nat → ClassId} {a z : Nat} {xs : Nat → Int32} (hlt0 : l.stackTraces = false) (C : lw_C p s m meth c bb L D A a) {t i : Nat} (hi : i + 5 ≤ L) (ht : i = 5 * t) {S : g_S} {M : m_S} {H : Heap} {ls : Array Slot} (I : lw_I D A a z bb L xs s S M H) (hl : lv_has ls 7 [(4, .int (nI i)), (0, .ref bb), (1, .ref a), (2, .ref (z + 12)), (3, .ref (z + 28))])
    (next : ∀ (S : g_S) (M : m_S) (H : Heap) (ls : Array Slot), lw_I D A a z bb L xs s S M H → lv_has ls 7 [(4, .int (nI i)), (0, .ref bb), (1, .ref a), (2, .ref (z + 12)), (3, .ref (z + 28))] → W p l e room_1 s m #[Value.ref bb] below meth c H [] (30 + 6 * (t + 1)) (170000 + 420 * (t + 1)) (lw_Z below #[Value.ref bb] s) (F0 m 623 ls [])) : W p l e room_1 s m #[Value.ref bb] below meth c H [] (30 + 6 * t) (170000 + 420 * t) (lw_Z below #[Value.ref bb] s) (F0 m 536 ls []) := by
  obtain ⟨hx, hb, hr, hml, hown, htb, hK, hN, hNc, hlocks, hbl, has, hLm⟩ := C
  obtain ⟨hd, ⟨th, hm⟩, ⟨fo, hout⟩, hX, hT, hJ⟩ := I
  obtain ⟨haz, hzs⟩ := hd.lt
  obtain ⟨pa, as, bs, cs, ds, h1, -⟩ := id hd
  obtain ⟨G, ho, -, -⟩ := id hm
  have hL : ∀ q ∈ ([] : List Loc), (fun q : Nat => s.heap.size ≤ q) q.base := fun q hq => by cases hq
  refine lv_aload_n hx hb d_La_law_536 rfl (lv_at hl 2 rfl) ?_
  refine lv_aload_n hx hb d_La_law_537 rfl (lv_at hl 1 rfl) ?_
  refine lv_iload hx hb d_La_law_538 (lv_at hl 0 rfl) ?_
  refine lv_iconst (v := 1) hx hb d_La_law_540 (by decide) ?_
  refine lv_iadd hx hb d_La_law_541 ?_
  refine x_top (y := nI (i + 1)) (nI_add i 1) ?_
  refine x_sld hx hb hX (i := i + 1) (by omega) (by omega) d_La_law_542 ?_
  by_cases hs : g_sort (xs (i + 1))
  · refine x_call (F := fun q : Nat => s.heap.size ≤ q) (va_runV (As := [.int (xs (i + 1))]) (rest := []) ⟨hx, hb, hml, hown, htb⟩ (c_Bd_list l hd hs) (x_cV 1 htb mw_189 mw_1 mw_192 mw_190 mw_191 rfl rfl (by decide +kernel) ⟨Nat.le_of_ble_eq_true rfl, Nat.le_of_ble_eq_true rfl⟩) (x_preV hK hN h1 rfl) rfl rfl hl.1 rfl (lv_room (Nat.le_of_ble_eq_true rfl)) d_La_law_543 ⟨(by show _ ≤ 601024; omega), (by show _ ≤ 7293034; omega)⟩) hL (lw_fC hd has) (fun H1 locs hP hL => ?_)
    refine W.eq (g2 := F0 m 546 ls [.int (nI (g_lst S.2.2.1 (xs (i + 1))).length)]) rfl ?_
    refine va_forget hL ?_
    clear hL
    have hL : ∀ q ∈ ([] : List Loc), (fun q : Nat => s.heap.size ≤ q) q.base := fun q hq => by cases hq
    obtain ⟨hd1, k1⟩ := hP
    obtain ⟨hm, hout, hX, hT⟩ := lw_keepC hd k1 hm hout hX (by omega) hT
    have hd := hd1
    obtain ⟨pa, as, bs, cs, ds, h1, -⟩ := id hd
    obtain ⟨G, ho, -, -⟩ := id hm
    refine lv_aload_n hx hb d_La_law_546 rfl (lv_at hl 3 rfl) ?_
    refine lv_aload_n hx hb d_La_law_547 rfl (lv_at hl 1 rfl) ?_
    refine lv_iload hx hb d_La_law_548 (lv_at hl 0 rfl) ?_
    refine lv_iconst (v := 1) hx hb d_La_law_550 (by decide) ?_
    refine lv_iadd hx hb d_La_law_551 ?_
    refine x_top (y := nI (i + 1)) (nI_add i 1) ?_
    refine x_sld hx hb hX (i := i + 1) (by omega) (by omega) d_La_law_552 ?_
    refine x_call (F := fun q : Nat => s.heap.size ≤ q) (va_runV (As := [.int (xs (i + 1))]) (rest := [.int (nI (g_lst S.2.2.1 (xs (i + 1))).length)]) ⟨hx, hb, hml, hown, htb⟩ (c_Mo_list l hm hs) (x_cV 1 htb mw_617 mw_6 mw_620 mw_618 mw_619 rfl rfl (by decide +kernel) ⟨Nat.le_of_ble_eq_true rfl, Nat.le_of_ble_eq_true rfl⟩) (x_preV hK hN ho rfl) rfl rfl hl.1 rfl (lv_room (Nat.le_of_ble_eq_true rfl)) d_La_law_553 ⟨(by show _ ≤ 601024; omega), (by show _ ≤ 7293034; omega)⟩) hL (lw_fM hd has) (fun H2 locs hP hL => ?_)
    refine W.eq (g2 := F0 m 556 ls [.int (nI (m_lst M.2.2.1 (xs (i + 1)) M.2.2.1.length).length), .int (nI (g_lst S.2.2.1 (xs (i + 1))).length)]) rfl ?_
    refine va_forget hL ?_
    clear hL
    have hL : ∀ q ∈ ([] : List Loc), (fun q : Nat => s.heap.size ≤ q) q.base := fun q hq => by cases hq
    obtain ⟨hm, k2⟩ := hP
    obtain ⟨hd, hout, hX, hT⟩ := lw_keepM hd k2 hout hX (by omega) hT
    obtain ⟨G, ho, -, -⟩ := id hm
    refine lv_icmp_eq (tgt := 623) hx hb d_La_law_556 (by decide) (fun _ => ?_) (fun c9 => absurd (by rw [j_lst hJ.now.1 hJ.now.2]) c9)
    exact W.widen (by omega) (by omega) (next _ _ _ _ ⟨hd, ⟨_, hm⟩, ⟨_, hout⟩, hX, hT, hJ.list _⟩ (lv_sub hl [0, 1, 2, 3, 4] rfl))
  · refine x_callP (va_runV (As := [.int (xs (i + 1))]) (rest := []) ⟨hx, hb, hml, hown, htb⟩ (c_Bd_listN l hd hs) (x_cV 1 htb mw_189 mw_1 mw_192 mw_190 mw_191 rfl rfl (by decide +kernel) ⟨Nat.le_of_ble_eq_true rfl, Nat.le_of_ble_eq_true rfl⟩) (x_preV hK hN h1 rfl) rfl rfl hl.1 rfl (lv_room (Nat.le_of_ble_eq_true rfl)) d_La_law_543 ⟨(by show _ ≤ 601024; omega), (by show _ ≤ 7293034; omega)⟩) ?_
    refine W.eq (g2 := F0 m 546 ls [.int (-1)]) rfl ?_
    refine lv_aload_n hx hb d_La_law_546 rfl (lv_at hl 3 rfl) ?_
    refine lv_aload_n hx hb d_La_law_547 rfl (lv_at hl 1 rfl) ?_
    refine lv_iload hx hb d_La_law_548 (lv_at hl 0 rfl) ?_
    refine lv_iconst (v := 1) hx hb d_La_law_550 (by decide) ?_
    refine lv_iadd hx hb d_La_law_551 ?_
    refine x_top (y := nI (i + 1)) (nI_add i 1) ?_
    refine x_sld hx hb hX (i := i + 1) (by omega) (by omega) d_La_law_552 ?_
    refine x_call (F := fun q : Nat => s.heap.size ≤ q) (va_runV (As := [.int (xs (i + 1))]) (rest := [.int (-1)]) ⟨hx, hb, hml, hown, htb⟩ (c_Mo_listN l hm hs) (x_cV 1 htb mw_617 mw_6 mw_620 mw_618 mw_619 rfl rfl (by decide +kernel) ⟨Nat.le_of_ble_eq_true rfl, Nat.le_of_ble_eq_true rfl⟩) (x_preV hK hN ho rfl) rfl rfl hl.1 rfl (lv_room (Nat.le_of_ble_eq_true rfl)) d_La_law_553 ⟨(by show _ ≤ 601024; omega), (by show _ ≤ 7293034; omega)⟩) hL (lw_fM hd has) (fun H2 locs hP hL => ?_)
    refine W.eq (g2 := F0 m 556 ls [.int (-1), .int (-1)]) rfl ?_
    refine va_forget hL ?_
    clear hL
    have hL : ∀ q ∈ ([] : List Loc), (fun q : Nat => s.heap.size ≤ q) q.base := fun q hq => by cases hq
    obtain ⟨hm, k2⟩ := hP
    obtain ⟨hd, hout, hX, hT⟩ := lw_keepM hd k2 hout hX (by omega) hT
    obtain ⟨G, ho, -, -⟩ := id hm
    refine lv_icmp_eq (tgt := 623) hx hb d_La_law_556 (by decide) (fun _ => ?_) (fun c9 => absurd rfl c9)
    exact W.widen (by omega) (by omega) (next _ _ _ _ ⟨hd, ⟨_, hm⟩, ⟨_, hout⟩, hX, hT, hJ⟩ (lv_sub hl [0, 1, 2, 3, 4] rfl))
set_option maxHeartbeats 4000000 in
set_option maxRecDepth 100000 in
theorem lw_10 {p : Program} {l : Launch} {e : Env} {s : State} {m : MethodId} {below : List Frame} {meth : Method} {c : Code} {bb L : Nat} {D : va_G} {A : Nat → ClassId} {a z : Nat} {xs : Nat → Int32} (hlt0 : l.stackTraces = false) (C : lw_C p s m meth c bb L D A a) {t i : Nat} (hi : i + 5 ≤ L) (ht : i = 5 * t) {S : g_S} {M : m_S} {H : Heap} {ls : Array Slot} (I : lw_I D A a z bb L xs s S M H) (hl : lv_has ls 7 [(4, .int (nI i)), (0, .ref bb), (1, .ref a), (2, .ref (z + 12)), (3, .ref (z + 28))])
    (next : ∀ (S : g_S) (M : m_S) (H : Heap) (ls : Array Slot), lw_I D A a z bb L xs s S M H → lv_has ls 7 [(4, .int (nI i)), (0, .ref bb), (1, .ref a), (2, .ref (z + 12)), (3, .ref (z + 28))] → W p l e room_1 s m #[Value.ref bb] below meth c H [] (30 + 6 * (t + 1)) (170000 + 420 * (t + 1)) (lw_Z below #[Value.ref bb] s) (F0 m 623 ls [])) : W p l e room_1 s m #[Value.ref bb] below meth c H [] (30 + 6 * t) (170000 + 420 * t) (lw_Z below #[Value.ref bb] s) (F0 m 561 ls []) := by
  obtain ⟨hx, hb, hr, hml, hown, htb, hK, hN, hNc, hlocks, hbl, has, hLm⟩ := C
  obtain ⟨hd, ⟨th, hm⟩, ⟨fo, hout⟩, hX, hT, hJ⟩ := I
  obtain ⟨haz, hzs⟩ := hd.lt
  obtain ⟨pa, as, bs, cs, ds, h1, -⟩ := id hd
  obtain ⟨G, ho, -, -⟩ := id hm
  have hL : ∀ q ∈ ([] : List Loc), (fun q : Nat => s.heap.size ≤ q) q.base := fun q hq => by cases hq
  refine lv_aload_n hx hb d_La_law_561 rfl (lv_at hl 2 rfl) ?_
  refine lv_aload_n hx hb d_La_law_562 rfl (lv_at hl 1 rfl) ?_
  refine lv_iload hx hb d_La_law_563 (lv_at hl 0 rfl) ?_
  refine lv_iconst (v := 1) hx hb d_La_law_565 (by decide) ?_
  refine lv_iadd hx hb d_La_law_566 ?_
  refine x_top (y := nI (i + 1)) (nI_add i 1) ?_
  refine x_sld hx hb hX (i := i + 1) (by omega) (by omega) d_La_law_567 ?_
  refine lv_aload_n hx hb d_La_law_568 rfl (lv_at hl 1 rfl) ?_
  refine lv_iload hx hb d_La_law_569 (lv_at hl 0 rfl) ?_
  refine lv_iconst (v := 2) hx hb d_La_law_571 (by decide) ?_
  refine lv_iadd hx hb d_La_law_572 ?_
  refine x_top (y := nI (i + 2)) (nI_add i 2) ?_
  refine x_sld hx hb hX (i := i + 2) (by omega) (by omega) d_La_law_573 ?_
  refine x_callP (va_runV (As := [.int (xs (i + 1)), .int (xs (i + 2))]) (rest := []) ⟨hx, hb, hml, hown, htb⟩ (c_Bd_listed l hd (xs (i + 1)) (xs (i + 2))) (x_cV 2 htb mw_211 mw_1 mw_214 mw_212 mw_213 rfl rfl (by decide +kernel) ⟨Nat.le_of_ble_eq_true rfl, Nat.le_of_ble_eq_true rfl⟩) (x_preV hK hN h1 rfl) rfl rfl hl.1 rfl (lv_room (Nat.le_of_ble_eq_true rfl)) d_La_law_574 ⟨(by show _ ≤ 601024; omega), (by show _ ≤ 7293034; omega)⟩) ?_
  refine W.eq (g2 := F0 m 577 ls [.int (g_lsd S.2.2.2.2.1 (xs (i + 1)) (xs (i + 2)))]) rfl ?_
  refine lv_aload_n hx hb d_La_law_577 rfl (lv_at hl 3 rfl) ?_
  refine lv_aload_n hx hb d_La_law_578 rfl (lv_at hl 1 rfl) ?_
  refine lv_iload hx hb d_La_law_579 (lv_at hl 0 rfl) ?_
  refine lv_iconst (v := 1) hx hb d_La_law_581 (by decide) ?_
  refine lv_iadd hx hb d_La_law_582 ?_
  refine x_top (y := nI (i + 1)) (nI_add i 1) ?_
  refine x_sld hx hb hX (i := i + 1) (by omega) (by omega) d_La_law_583 ?_
  refine lv_aload_n hx hb d_La_law_584 rfl (lv_at hl 1 rfl) ?_
  refine lv_iload hx hb d_La_law_585 (lv_at hl 0 rfl) ?_
  refine lv_iconst (v := 2) hx hb d_La_law_587 (by decide) ?_
  refine lv_iadd hx hb d_La_law_588 ?_
  refine x_top (y := nI (i + 2)) (nI_add i 2) ?_
  refine x_sld hx hb hX (i := i + 2) (by omega) (by omega) d_La_law_589 ?_
  refine x_call (F := fun q : Nat => s.heap.size ≤ q) (va_runV (As := [.int (xs (i + 1)), .int (xs (i + 2))]) (rest := [.int (g_lsd S.2.2.2.2.1 (xs (i + 1)) (xs (i + 2)))]) ⟨hx, hb, hml, hown, htb⟩ (c_Mo_listed l hm (xs (i + 1)) (xs (i + 2))) (x_cV 2 htb mw_629 mw_6 mw_632 mw_630 mw_631 rfl rfl (by decide +kernel) ⟨Nat.le_of_ble_eq_true rfl, Nat.le_of_ble_eq_true rfl⟩) (x_preV hK hN ho rfl) rfl rfl hl.1 rfl (lv_room (Nat.le_of_ble_eq_true rfl)) d_La_law_590 ⟨(by show _ ≤ 601024; omega), (by show _ ≤ 7293034; omega)⟩) hL (lw_fM hd has) (fun H2 locs hP hL => ?_)
  refine W.eq (g2 := F0 m 593 ls [.int (m_lsd M.2.2.2.2.2.2 (xs (i + 1)) (xs (i + 2))), .int (g_lsd S.2.2.2.2.1 (xs (i + 1)) (xs (i + 2)))]) rfl ?_
  refine va_forget hL ?_
  clear hL
  have hL : ∀ q ∈ ([] : List Loc), (fun q : Nat => s.heap.size ≤ q) q.base := fun q hq => by cases hq
  obtain ⟨hm, k2⟩ := hP
  obtain ⟨hd, hout, hX, hT⟩ := lw_keepM hd k2 hout hX (by omega) hT
  obtain ⟨G, ho, -, -⟩ := id hm
  refine lv_icmp_eq (tgt := 623) hx hb d_La_law_593 (by decide) (fun _ => ?_) (fun c9 => absurd (by rw [hJ.2.2.2.2.2.2, j_lsd]) c9)
  exact W.widen (by omega) (by omega) (next _ _ _ _ ⟨hd, ⟨_, hm⟩, ⟨_, hout⟩, hX, hT, hJ⟩ (lv_sub hl [0, 1, 2, 3, 4] rfl))
set_option maxHeartbeats 4000000 in
set_option maxRecDepth 100000 in
theorem lw_11 {p : Program} {l : Launch} {e : Env} {s : State} {m : MethodId} {below : List Frame} {meth : Method} {c : Code} {bb L : Nat} {D : va_G} {A : Nat → ClassId} {a z : Nat} {xs : Nat → Int32} (hlt0 : l.stackTraces = false) (C : lw_C p s m meth c bb L D A a) {t i : Nat} (hi : i + 5 ≤ L) (ht : i = 5 * t) {S : g_S} {M : m_S} {H : Heap} {ls : Array Slot} (I : lw_I D A a z bb L xs s S M H) (hl : lv_has ls 7 [(4, .int (nI i)), (0, .ref bb), (1, .ref a), (2, .ref (z + 12)), (3, .ref (z + 28))])
    (next : ∀ (S : g_S) (M : m_S) (H : Heap) (ls : Array Slot), lw_I D A a z bb L xs s S M H → lv_has ls 7 [(4, .int (nI i)), (0, .ref bb), (1, .ref a), (2, .ref (z + 12)), (3, .ref (z + 28))] → W p l e room_1 s m #[Value.ref bb] below meth c H [] (30 + 6 * (t + 1)) (170000 + 420 * (t + 1)) (lw_Z below #[Value.ref bb] s) (F0 m 623 ls [])) : W p l e room_1 s m #[Value.ref bb] below meth c H [] (30 + 6 * t) (170000 + 420 * t) (lw_Z below #[Value.ref bb] s) (F0 m 598 ls []) := by
  obtain ⟨hx, hb, hr, hml, hown, htb, hK, hN, hNc, hlocks, hbl, has, hLm⟩ := C
  obtain ⟨hd, ⟨th, hm⟩, ⟨fo, hout⟩, hX, hT, hJ⟩ := I
  obtain ⟨haz, hzs⟩ := hd.lt
  obtain ⟨pa, as, bs, cs, ds, h1, -⟩ := id hd
  obtain ⟨G, ho, -, -⟩ := id hm
  have hL : ∀ q ∈ ([] : List Loc), (fun q : Nat => s.heap.size ≤ q) q.base := fun q hq => by cases hq
  refine lv_aload_n hx hb d_La_law_598 rfl (lv_at hl 2 rfl) ?_
  refine lv_aload_n hx hb d_La_law_599 rfl (lv_at hl 1 rfl) ?_
  refine lv_iload hx hb d_La_law_600 (lv_at hl 0 rfl) ?_
  refine lv_iconst (v := 1) hx hb d_La_law_602 (by decide) ?_
  refine lv_iadd hx hb d_La_law_603 ?_
  refine x_top (y := nI (i + 1)) (nI_add i 1) ?_
  refine x_sld hx hb hX (i := i + 1) (by omega) (by omega) d_La_law_604 ?_
  refine x_callP (va_runV (As := [.int (xs (i + 1))]) (rest := []) ⟨hx, hb, hml, hown, htb⟩ (c_Bd_count l hd (xs (i + 1))) (x_cV 1 htb mw_216 mw_1 mw_219 mw_217 mw_218 rfl rfl (by decide +kernel) ⟨Nat.le_of_ble_eq_true rfl, Nat.le_of_ble_eq_true rfl⟩) (x_preV hK hN h1 rfl) rfl rfl hl.1 rfl (lv_room (Nat.le_of_ble_eq_true rfl)) d_La_law_605 ⟨(by show _ ≤ 601024; omega), (by show _ ≤ 7293034; omega)⟩) ?_
  refine W.eq (g2 := F0 m 608 ls [.int (g_cntv S (xs (i + 1)))]) rfl ?_
  refine lv_aload_n hx hb d_La_law_608 rfl (lv_at hl 3 rfl) ?_
  refine lv_aload_n hx hb d_La_law_609 rfl (lv_at hl 1 rfl) ?_
  refine lv_iload hx hb d_La_law_610 (lv_at hl 0 rfl) ?_
  refine lv_iconst (v := 1) hx hb d_La_law_612 (by decide) ?_
  refine lv_iadd hx hb d_La_law_613 ?_
  refine x_top (y := nI (i + 1)) (nI_add i 1) ?_
  refine x_sld hx hb hX (i := i + 1) (by omega) (by omega) d_La_law_614 ?_
  refine x_call (F := fun q : Nat => s.heap.size ≤ q) (va_runV (As := [.int (xs (i + 1))]) (rest := [.int (g_cntv S (xs (i + 1)))]) ⟨hx, hb, hml, hown, htb⟩ (c_Mo_count l hm (xs (i + 1))) (x_cV 1 htb mw_633 mw_6 mw_636 mw_634 mw_635 rfl rfl (by decide +kernel) ⟨Nat.le_of_ble_eq_true rfl, Nat.le_of_ble_eq_true rfl⟩) (x_preV hK hN ho rfl) rfl rfl hl.1 rfl (lv_room (Nat.le_of_ble_eq_true rfl)) d_La_law_615 ⟨(by show _ ≤ 601024; omega), (by show _ ≤ 7293034; omega)⟩) hL (lw_fM hd has) (fun H2 locs hP hL => ?_)
  refine W.eq (g2 := F0 m 618 ls [.int (m_cntv M (xs (i + 1))), .int (g_cntv S (xs (i + 1)))]) rfl ?_
  refine va_forget hL ?_
  clear hL
  have hL : ∀ q ∈ ([] : List Loc), (fun q : Nat => s.heap.size ≤ q) q.base := fun q hq => by cases hq
  obtain ⟨hm, k2⟩ := hP
  obtain ⟨hd, hout, hX, hT⟩ := lw_keepM hd k2 hout hX (by omega) hT
  obtain ⟨G, ho, -, -⟩ := id hm
  refine lv_icmp_eq (tgt := 623) hx hb d_La_law_618 (by decide) (fun _ => ?_) (fun c9 => absurd (by rw [hJ.cnt]) c9)
  exact W.widen (by omega) (by omega) (next _ _ _ _ ⟨hd, ⟨_, hm⟩, ⟨_, hout⟩, hX, hT, hJ⟩ (lv_sub hl [0, 1, 2, 3, 4] rfl))
