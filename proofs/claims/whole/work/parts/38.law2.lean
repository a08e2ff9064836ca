theorem lw_end {i L : Nat} (h : L < i + 5) (hi : i < 2 ^ 30) (hL : L < 2 ^ 30) : nI L - 5 < nI i := by
  rcases Nat.lt_or_ge L 5 with q | q
  · exact Int32.lt_of_lt_of_le ((x_subneg (a := L) (b := 5) hL (by decide)).mpr q) (nI_pos' (by omega))
  · rw [show nI L - 5 = nI (L - 5) from pk_sub (a := L) (b := 5) q]
    exact nI_lt (by omega) (by omega)
set_option maxHeartbeats 4000000 in
set_option maxRecDepth 100000 in
theorem lw_loop {p : Program} {l : Launch} {e : Env} {s : State} {m : MethodId} {below : List Frame} {meth : Method} {c : Code} {bb L : Nat} {D : va_G} {A : Nat → ClassId} {a z : Nat} {xs : Nat → Int32} (hlt0 : l.stackTraces = false) (C : lw_C p s m meth c bb L D A a) {S : g_S} {M : m_S} {H : Heap} {ls : Array Slot} (I : lw_I D A a z bb L xs s S M H) (hl : lv_has ls 7 [(4, .int (nI 0)), (0, .ref bb), (1, .ref a), (2, .ref (z + 12)), (3, .ref (z + 28))]) : W p l e room_1 s m #[Value.ref bb] below meth c H [] (30) (170000) (lw_Z below #[Value.ref bb] s) (F0 m 23 ls []) := by
  obtain ⟨hx, hb, hr, hml, hown, htb, hK, hN, hNc, hlocks, hbl, has, hLm⟩ := id C
  refine x_loopC (σ := Nat × g_S × m_S × Heap × Array Slot) (fun w => F0 m 23 w.2.2.2.2 []) (fun w => w.2.2.2.1) (fun w => 30 + 6 * w.1) (fun w => 170000 + 420 * w.1) (fun w => 5 * w.1 ≤ L ∧ lw_I D A a z bb L xs s w.2.1 w.2.2.1 w.2.2.2.1 ∧ lv_has w.2.2.2.2 7 [(4, .int (nI (5 * w.1))), (0, .ref bb), (1, .ref a), (2, .ref (z + 12)), (3, .ref (z + 28))]) (fun w => L + 5 - 5 * w.1) (s0 := (0, S, M, H, ls)) ⟨Nat.zero_le _, I, hl⟩ ?_
  clear I hl S M H ls
  rintro ⟨t, S, M, H, ls⟩ ⟨hk, I, hl⟩ ih
  dsimp only at hk I hl ih ⊢
  obtain ⟨i, hti⟩ : ∃ i, i = 5 * t := ⟨_, rfl⟩
  rw [← hti] at hk hl
  have hX := I.2.2.2.1
  refine lv_iload hx hb d_La_law_23 (lv_at hl 0 rfl) ?_
  refine lv_aload_n hx hb d_La_law_25 rfl (lv_at hl 1 rfl) ?_
  refine x_slen hx hb hX d_La_law_26 ?_
  refine lv_iconst (v := 5) hx hb d_La_law_27 (by decide) ?_
  refine lv_isub hx hb d_La_law_28 ?_
  by_cases hi : i + 5 ≤ L
  · have next : ∀ (S : g_S) (M : m_S) (H : Heap) (ls : Array Slot), lw_I D A a z bb L xs s S M H → lv_has ls 7 [(4, .int (nI i)), (0, .ref bb), (1, .ref a), (2, .ref (z + 12)), (3, .ref (z + 28))] → W p l e room_1 s m #[Value.ref bb] below meth c H [] (30 + 6 * (t + 1)) (170000 + 420 * (t + 1)) (lw_Z below #[Value.ref bb] s) (F0 m 623 ls []) := by
      intro S M H ls I hl
      refine lv_iinc (v := nI (i + 5)) (lv' := [(4, .int (nI (i + 5))), (0, .ref bb), (1, .ref a), (2, .ref (z + 12)), (3, .ref (z + 28))]) hx hb d_La_law_623 hl (k := 0) rfl (nI_add i 5) (by decide) rfl (fun ls hl => ?_)
      refine lv_goto (tgt := 23) hx hb d_La_law_626 (by decide) ?_
      exact ih (t + 1, S, M, H, ls) ⟨by show 5 * (t + 1) ≤ L; omega, I, by show lv_has ls 7 [(4, .int (nI (5 * (t + 1)))), (0, .ref bb), (1, .ref a), (2, .ref (z + 12)), (3, .ref (z + 28))]; rw [show 5 * (t + 1) = i + 5 by omega]; exact (lv_sub hl [0, 1, 2, 3, 4] rfl)⟩ (by show L + 5 - 5 * (t + 1) < L + 5 - 5 * t; omega)
    refine x_top (y := nI (L - 5)) (pk_sub (a := L) (b := 5) (by omega)) ?_
    refine lv_icmp_gt (tgt := 629) hx hb d_La_law_29 (by decide) (fun c9 => absurd c9 (nI_nlt (a := L - 5) (b := i) (by omega) (by omega))) (fun _ => ?_)
    refine lv_aload_n hx hb d_La_law_32 rfl (lv_at hl 1 rfl) ?_
    refine lv_iload hx hb d_La_law_33 (lv_at hl 0 rfl) ?_
    refine x_sld hx hb hX (i := i) (by omega) (by omega) d_La_law_35 ?_
    refine lv_bipush (v := 15) hx hb d_La_law_36 (by decide) ?_
    refine lv_iand hx hb d_La_law_38 ?_
    obtain ⟨j, hj, ej⟩ := pk_andE (xs i) (m := 15) 4 (by decide)
    refine x_top (y := nI j) (ej) ?_
    have hj2 : j = 0 ∨ j = 1 ∨ j = 2 ∨ j = 3 ∨ j = 4 ∨ j = 5 ∨ j = 6 ∨ j = 7 ∨ j = 8 ∨ j = 9 ∨ j = 10 ∨ j = 11 ∨ 12 ≤ j := by omega
    rcases hj2 with rfl | rfl | rfl | rfl | rfl | rfl | rfl | rfl | rfl | rfl | rfl | rfl | hj2
    · refine lv_tableIn (x := nI 0) (tgt := 100) (off := 61) hx hb d_La_law_39 (by decide) (by decide) (by decide) (by decide) ?_
      exact lw_0 hlt0 C hi hti I hl next
    · refine lv_tableIn (x := nI 1) (tgt := 169) (off := 130) hx hb d_La_law_39 (by decide) (by decide) (by decide) (by decide) ?_
      exact lw_1 hlt0 C hi hti I hl next
    · refine lv_tableIn (x := nI 2) (tgt := 213) (off := 174) hx hb d_La_law_39 (by decide) (by decide) (by decide) (by decide) ?_
      exact lw_2 hlt0 C hi hti I hl next
    · refine lv_tableIn (x := nI 3) (tgt := 261) (off := 222) hx hb d_La_law_39 (by decide) (by decide) (by decide) (by decide) ?_
      exact lw_3 hlt0 C hi hti I hl next
    · refine lv_tableIn (x := nI 4) (tgt := 333) (off := 294) hx hb d_La_law_39 (by decide) (by decide) (by decide) (by decide) ?_
      exact lw_4 hlt0 C hi hti I hl next
    · refine lv_tableIn (x := nI 5) (tgt := 381) (off := 342) hx hb d_La_law_39 (by decide) (by decide) (by decide) (by decide) ?_
      exact lw_5 hlt0 C hi hti I hl next
    · refine lv_tableIn (x := nI 6) (tgt := 394) (off := 355) hx hb d_La_law_39 (by decide) (by decide) (by decide) (by decide) ?_
      exact lw_6 hlt0 C hi hti I hl next
    · refine lv_tableIn (x := nI 7) (tgt := 450) (off := 411) hx hb d_La_law_39 (by decide) (by decide) (by decide) (by decide) ?_
      exact lw_7 hlt0 C hi hti I hl next
    · refine lv_tableIn (x := nI 8) (tgt := 487) (off := 448) hx hb d_La_law_39 (by decide) (by decide) (by decide) (by decide) ?_
      exact lw_8 hlt0 C hi hti I hl next
    · refine lv_tableIn (x := nI 9) (tgt := 536) (off := 497) hx hb d_La_law_39 (by decide) (by decide) (by decide) (by decide) ?_
      exact lw_9 hlt0 C hi hti I hl next
    · refine lv_tableIn (x := nI 10) (tgt := 561) (off := 522) hx hb d_La_law_39 (by decide) (by decide) (by decide) (by decide) ?_
      exact lw_10 hlt0 C hi hti I hl next
    · refine lv_tableIn (x := nI 11) (tgt := 598) (off := 559) hx hb d_La_law_39 (by decide) (by decide) (by decide) (by decide) ?_
      exact lw_11 hlt0 C hi hti I hl next
    · refine lv_tableOut (tgt := 623) hx hb d_La_law_39 (Or.inr (by rw [nI_toInt (by omega)]; omega)) (by decide) ?_
      exact W.widen (by omega) (by omega) (next S M H ls I hl)
  · refine lv_icmp_gt (tgt := 629) hx hb d_La_law_29 (by decide) (fun _ => ?_) (fun c9 => absurd (lw_end (by omega) (by omega) (by omega)) c9)
    refine lv_iconst (v := 1) hx hb d_La_law_629 (by decide) ?_
    exact W.widen (by omega) (by omega) (lw_ret hx hb hr hlocks d_La_law_630)
set_option maxHeartbeats 4000000 in
set_option maxRecDepth 100000 in
theorem whole_start {p : Program} {e : Env} {s : State} {m : MethodId} {below : List Frame} {meth : Method} {c : Code} (l : Launch) (hlt0 : l.stackTraces = false) {b L : Nat} {xs : Nat → Int32} (hLm : L ≤ 2560) (C0 : lw_At p s m meth c b L xs) : W p l e room_1 s m #[Value.ref b] below meth c s.heap [] 0 0 (lw_Z below #[Value.ref b] s) (entryFrame m ([Value.ref b] : List Value).toArray 7) := by
  obtain ⟨hx, hb, hr, hml, hown, hts, hX, hbl, hlocks, hg⟩ := C0
  have hown : s.vm.findClass "BreakingDiskLaw" = some m.cls := hown
  have htb := x_tbl hts
  obtain ⟨D, A, hK⟩ := x_world hts
  have hN := x_worldE hts hg
  have hNc := x_worldN hg
  obtain ⟨a, ha⟩ : ∃ a, s.heap.size = a := ⟨_, rfl⟩
  have hT0 : x_T (g_Mx a (a + 1)) s s.heap := x_worldT hts hg (fun q hq hM => by rcases hM with e | e | e <;> omega)
  have hl := lv_entry ([.ref b]) (n := 7) (Nat.le_of_ble_eq_true rfl)
  rw [lg_entry_eq]
  generalize (lg_sl ([.ref b]) ++ List.replicate (7 - (lg_sl ([.ref b])).length) Slot.unset).toArray = ls at hl ⊢
  have hl : lv_has ls 7 [(0, .ref b)] := hl
  have hL : ∀ q ∈ ([] : List Loc), (fun q : Nat => s.heap.size ≤ q) q.base := fun q hq => by cases hq
  refine x_new (ci := 7) (fs := [.null, .null, .null, .null, .null, .null, .int 0]) (T := T_Bd) (N := 7) hx hb htb u_Bd t_Bd t_Bd_ok hown (htb _ mw_20) (htb _ mw_21) (htb _ mw_1) hK rfl df_Bd (Nat.le_of_ble_eq_true rfl) (Nat.le_of_ble_eq_true rfl) d_La_law_0 (fun H1 k1 k1z k1o => ?_)
  rw [ha] at k1 ⊢
  refine lv_dup hx hb d_La_law_3 rfl ?_
  refine x_call (F := fun q : Nat => s.heap.size ≤ q) (va_runI (As := []) (rest := [.ref a]) ⟨hx, hb, hml, hown, htb⟩ (c_Bd_init l (a := a) (z := a + 1) (by rw [k1z, ha]) k1) (x_cI 0 htb mw_22 mw_1 mw_24 mw_23 rfl rfl rfl (by decide +kernel) ⟨Nat.le_of_ble_eq_true rfl, Nat.le_of_ble_eq_true rfl⟩) (x_preS hK hN) rfl rfl hl.1 rfl (lv_room (Nat.le_of_ble_eq_true rfl)) d_La_law_4 ⟨Nat.le_of_ble_eq_true rfl, Nat.le_of_ble_eq_true rfl⟩) hL (fun q hq => by rcases hq with e | e <;> omega) (fun H2 locs hP hL => ?_)
  refine W.eq (g2 := F0 m 7 ls [.ref a]) rfl ?_
  refine va_forget hL ?_
  clear hL
  have hL : ∀ q ∈ ([] : List Loc), (fun q : Nat => s.heap.size ≤ q) q.base := fun q hq => by cases hq
  obtain ⟨d1, d2, d3⟩ := hP
  refine lv_astore_n (lv' := [(1, .ref a), (0, .ref b)]) hx hb d_La_law_7 rfl hl (by decide) rfl (fun ls hl => ?_)
  refine x_new (ci := 8) (fs := [.int 0, .null, .null, .int 0, .int 0, .null, .null, .null, .null, .null, .null, .int 0, .int 0, .int 0, .int 0, .null, .null, .null, .int 0, .null, .null, .null, .null]) (T := T_Mo) (N := 23) hx hb htb u_Mo t_Mo t_Mo_ok hown (htb _ mw_456) (htb _ mw_457) (htb _ mw_6) hK rfl df_Mo (Nat.le_of_ble_eq_true rfl) (Nat.le_of_ble_eq_true rfl) d_La_law_8 (fun H3 k2 k2z k2o => ?_)
  rw [d2] at k2 ⊢
  refine lv_dup hx hb d_La_law_11 rfl ?_
  refine x_call (F := fun q : Nat => s.heap.size ≤ q) (va_runI (As := []) (rest := [.ref (a + 1 + 12)]) ⟨hx, hb, hml, hown, htb⟩ (c_Mo_init l (b := a + 1 + 12) (by rw [k2z, d2]) k2) (x_cI 0 htb mw_458 mw_6 mw_460 mw_459 rfl rfl rfl (by decide +kernel) ⟨Nat.le_of_ble_eq_true rfl, Nat.le_of_ble_eq_true rfl⟩) (x_preS hK hN) rfl rfl hl.1 rfl (lv_room (Nat.le_of_ble_eq_true rfl)) d_La_law_12 ⟨Nat.le_of_ble_eq_true rfl, Nat.le_of_ble_eq_true rfl⟩) hL (fun q hq => by omega) (fun H4 locs hP hL => ?_)
  refine W.eq (g2 := F0 m 15 ls [.ref (a + 1 + 12)]) rfl ?_
  refine va_forget hL ?_
  clear hL
  have hL : ∀ q ∈ ([] : List Loc), (fun q : Nat => s.heap.size ≤ q) q.base := fun q hq => by cases hq
  obtain ⟨m1, m2, m3⟩ := hP
  refine lv_astore_n (lv' := [(2, .ref (a + 1 + 12)), (1, .ref a), (0, .ref b)]) hx hb d_La_law_15 rfl hl (by decide) rfl (fun ls hl => ?_)
  refine lv_iconst (v := 1) hx hb d_La_law_16 (by decide) ?_
  refine x_newa (atype := .long) hx hb (htb _ mw_638) (ty := .long) rfl hK 4 rfl (fun C q => by cases q) (N' := 1) (a0 := (1, .inr (.inl (fun _ => 0)))) rfl (by decide) (by decide) (by decide) (Nat.le_of_ble_eq_true rfl) (Nat.le_of_ble_eq_true rfl) d_La_law_17 (fun H5 k3 k3z k3o => ?_)
  rw [m2] at k3 ⊢
  refine lv_astore_n (lv' := [(3, .ref (a + 1 + 12 + 16)), (2, .ref (a + 1 + 12)), (1, .ref a), (0, .ref b)]) hx hb d_La_law_19 rfl hl (by decide) rfl (fun ls hl => ?_)
  refine lv_iconst (v := 0) hx hb d_La_law_20 (by decide) ?_
  refine lv_istore (lv' := [(4, .int 0), (3, .ref (a + 1 + 12 + 16)), (2, .ref (a + 1 + 12)), (1, .ref a), (0, .ref b)]) hx hb d_La_law_21 hl (by decide) rfl (fun ls hl => ?_)
  have z5 : H5.size = a + 1 + 29 := by rw [k3z, m2]
  have o5 : ∀ q : Nat, q < a + 1 + 12 → H5[q]? = H2[q]? := fun q hq => by rw [k3o q (by omega), m3 q (by omega), k2o q (by omega)]
  have o0 : ∀ q : Nat, q < s.heap.size → H5[q]? = s.heap[q]? := fun q hq => by rw [o5 q (by omega), d3 q (by omega) (by omega), k1o q hq]
  have hd : g_D D A a (a + 1) ([], [], [], [], [], [], 0) H5 := d1 H5 (by omega) o5
  have hm : m_M D A (a + 1 + 12) 0 ([], [], [], [], [], 0, []) H5 := m1.kept (fun q h1 h2 => k3o q (by omega))
  have hI : lw_I D A a (a + 1) b L xs s ([], [], [], [], [], [], 0) ([], [], [], [], [], 0, []) H5 := ⟨hd, ⟨0, hm⟩, ⟨_, k3⟩, hX.kept (o0 b hbl), hT0.kept (N := g_Mx a (a + 1)) ⟨by omega, fun q hq _ => o0 q hq⟩, j_J.zero⟩
  exact W.widen (by decide) (by decide) (lw_loop hlt0 ⟨hx, hb, hr, hml, hown, htb, hK, hN, hNc, hlocks, hbl, by omega, hLm⟩ hI (lv_sub hl [0, 4, 3, 2, 1] rfl))
set_option maxHeartbeats 4000000 in
theorem lw_walk (l : Launch) (hlt0 : l.stackTraces = false) (b : Addr) (xs : List Int32) : MetFree l x (headSpec (Jvm.Cond.code x code maxLocals ret :: tables_1) room_1) (lw_P b xs) (fun _ _ _ _ _ => True) lw_Q := by
  refine MetFree.of_bodyS (code := code) (maxLocals := maxLocals) (ret := ret) (by decide) ?_ ?_
  · intro args s m h hn
    obtain ⟨meth, c, h1, h2, h3, h4, h5, h6, -, -⟩ := Cond.code_spec hn (atoms_spec (ws := Jvm.Cond.code x code maxLocals ret :: tables_1) h _ List.mem_cons_self)
    exact ⟨meth, c, h1, h2, h3, h4, h5, h6⟩
  · intro p e s m args below meth c s₁ B hml0 hP _
    obtain ⟨rfl, hx, hbd, hgv⟩ := hP
    obtain ⟨scr, harrAt, hlist, hof, hsmall⟩ := hx
    obtain ⟨hcb, hkn, -, -⟩ := State.arrayAt?_spec harrAt
    have hown : s.vm.findClass R_law = some m.cls := findClass_of_methodNamed B.named
    have hts0 : ∀ c ∈ (Jvm.Cond.code x code maxLocals ret :: tables_1), c.before #[Value.ref b] s = true := atoms_spec (ws := Jvm.Cond.code x code maxLocals ret :: tables_1) B.pre
    have hts : ∀ w ∈ lw_tbl, w.before #[Value.ref b] s = true := k2_hts_sels lw_privs (fun w hw => hts0 w (List.mem_cons_of_mem _ hw)) lw_privs_ok
    have hml : c.maxLocals = 7 := B.maxLocals_eq (hts0 _ List.mem_cons_self)
    have X₀ : Stand p l e room_1 s m #[Value.ref b] below meth c s₁ [] 0 0 := Stand.of_body B
    have hh0 : s₁.heap = s.heap := by rw [B.state]; rfl
    have hsz : scr.slots.size = xs.length := by rw [← Array.length_toList, hlist, List.length_map]
    have hval : ∀ j : Nat, j < xs.length → scr.slots[j]? = some (.int (xs.getD j 0)) := fun j hj => by
      rw [← Array.getElem?_toList, hlist]
      simp [hj]
    have hbl : b < s.heap.size := (Array.getElem?_eq_some_iff.mp hcb).1
    have hX : va_X b xs.length (fun j => xs.getD j 0) s s.heap := ⟨scr, hcb, hof, hkn, hsz, hval⟩
    have K : W p l e room_1 s m #[Value.ref b] below meth c s₁.heap [] 0 0 (lw_Z below #[Value.ref b] s) (entryFrame m ([Value.ref b] : List Value).toArray 7) := by
      rw [hh0]
      exact whole_start l hlt0 hbd ⟨B.exec, B.bytes, B.returns, hml, hown, hts, hX, hbl, B.notSynchronized, hgv⟩
    obtain ⟨t, a1, o, b1, b2, b3⟩ := K s₁ rfl X₀
    exact ⟨t, o, a1, b1, b2, b3⟩
theorem lw_pre_spec {args : Array Value} {s : State} (h : (Jvm.Cond.and given_1 narrow_1).before args s = true) (hr : rest_1_c.before args s = true) : ∃ (b : Addr) (xs : List Int32), lw_P b xs args s := by
  have hs := flat_of_before _ h
  have hq := flat_of_before _ hr
  have hc : (Cond.count 1).before args s = true := hs _ (by decide +kernel)
  have harr : (Cond.arrayOf (.arg 0) .int).before args s = true := hs _ (by decide +kernel)
  have hle : (Cond.le (.length (.arg 0)) (.int 2560)).before args s = true := hs _ (by decide +kernel)
  have hlen : (Cond.isInt (.length (.arg 0))).before args s = true := hq _ (by decide +kernel)
  have hall : (Cond.all (.arg 0) (.isInt (.elem (.arg 0) (.index 0)))).before args s = true := hq _ (by decide +kernel)
  obtain ⟨b, xs, hb, hx⟩ := State.ints_of_pre rfl harr hlen hall
  have hsm : xs.length < 2 ^ 31 := hx.choose_spec.2.2.2
  have hev : (Term.length (.arg 0)).eval args s none [] s = some (.int xs.length.toInt32) := hx.length_eval hb
  have hv := Cond.le_ints hev (show (Term.int 2560).eval args s none [] s = some (.int 2560) from rfl)
  have hd : xs.length.toInt32 ≤ 2560 := by
    simpa [Cond.before, Cond.holds, hv] using hle
  have hN : xs.length ≤ 2560 := (Int32.ofNat_le_ofNat hsm (by decide)).mp (show Int32.ofNat xs.length ≤ Int32.ofNat 2560 from hd)
  exact ⟨b, xs, Cond.one_arg hc (show args[0]? = some (.ref b) from hb), hx, hN, h⟩
theorem lw_comes (l : Launch) (hlt0 : l.stackTraces = false) : Comes l x (Jvm.Cond.code x code maxLocals ret :: tables_1) room_1 (fun tb e args s => Calls_1 tb e args s ∧ rest_1 tb e args s ∧ Pre_1 tb e args s)
    (fun _ _ args s o t => lw_Q args s o t) := by
  intro p e ha hc hk s m args below hf hfit hheap happ hpre
  obtain ⟨b, xs, hP⟩ := lw_pre_spec hpre.2.2 hpre.2.1
  obtain ⟨k, o, h1, h2, h3, hQ⟩ := lw_walk l hlt0 b xs p e ha hc hk s m args below hf ((Spec.applies_iff_loose hf).mp happ).1 hP trivial
  exact ⟨k, o, h1, h2, h3, hQ⟩
theorem lw_frame {s t : State} {o : Outcome} {args : Array Value} (h : Framed s o t [] 601024 7293034) :
    Framed s o t (fieldLocs frame_1_writes args s ++ arrayLocs frame_1_arrays args s ++ staticLocs frame_1_statics s) 601024 7293034 := h
theorem lw_limb (L : Cond) (hL : ∀ (args : Array Value) (s t : State), L.after args s (.returned (some (.int 1))) t = true) :
    ArmFor flags0 classFile x code maxLocals ret World_1 tables_1 room_1 Calls_1 rest_1 Pre_1
      (fun tb e a s o t => postC L tb e a s o t ∧ Framed s o t (fieldLocs frame_1_writes a s ++ arrayLocs frame_1_arrays a s ++ staticLocs frame_1_statics s) 601024 7293034) := by
  intro l hfl _ _ p e ha hc hk s m args below hf hfit hheap happ hpre
  have hlt0 : l.stackTraces = false := by
    unfold Launch.stackTraces
    rw [hfl]
    decide +kernel
  obtain ⟨k, o, h1, h2, h3, rfl, hF⟩ := lw_comes l hlt0 p e ha hc hk s m args below hf hfit hheap happ hpre
  exact ⟨k, _, h1, h2, h3, hL args s _, lw_frame hF⟩
theorem i_vc : Claimed_1_1 ∧ Claimed_1_2 := ⟨lw_limb limb_1_1 (fun args s t => by simp [limb_1_1, Cond.after, Cond.holds, Cond.value]), lw_limb limb_1_2 (fun args s t => Cond.after_iff.mpr (by
  first | (rw [show limb_1_2 = Cond.eq .result (.int 1) from rfl, Cond.eq_ints (x := 1) (y := 1) rfl rfl]; simp; done) | (simp [limb_1_2, Cond.value, Term.eval]; done)))⟩

