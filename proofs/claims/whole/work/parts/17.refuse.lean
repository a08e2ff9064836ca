/-! THE DISK: what refuses -/
theorem x_nohand {l : Launch} {y : MethodName} {cc : ByteArray} {maxL : Nat} {ret : Option FieldType} {rm : Room} {p : Program} {e : Env} {s : State} {m : MethodId} {args : Array Value} {below : List Frame} {meth : Method} {c : Code} {s₁ : State} (B : BodyLoose p l y (headSpec (Cond.code y cc maxL ret :: x_tb) rm) cc maxL ret e s m args below meth c s₁) : c.exceptionTable.toList = [] := by
  have h := B.noHandlers (atoms_spec (ws := Cond.code y cc maxL ret :: x_tb) B.pre _ List.mem_cons_self)
  have h0 : c.exceptionTable.size = 0 := by simpa [Array.isEmpty] using h
  exact List.eq_nil_of_length_eq_zero (by simpa using h0)
def g_ok (x y : Int32) : Prop := g_sort x ∧ ¬ y < 0
set_option maxHeartbeats 4000000 in
set_option maxRecDepth 100000 in
theorem c_Bd_refuse (l : Launch) {D : va_G} {A : Nat → ClassId} {H0 : Heap} {x y : Int32} (h : g_ok x y) : Met l y_Bd_refuseWrongName w_Bd_refuseWrongName { frames := 1, cells := 0, slots := 0, locals := 20 } (x_Pc D A [.int x, .int y] H0) (x_Q none (fun H1 => H1 = H0)) 0 0 (fun _ => False) := by
  refine Met.ofW (cc := prog_1_method_15_code) (maxL := 2) (ret := none) (by decide) rfl ?_
  intro p e s m args below meth c s₁ B hml hv
  obtain ⟨rfl, hH, hK, hN⟩ := hv
  obtain ⟨hx, hb, hr, htb, hown, hlocks⟩ := x_start (wd := Cond.code y_Bd_refuseWrongName prog_1_method_15_code 2 none) B
  have hl := lv_entry ([.int x, .int y]) (n := 2) (Nat.le_of_ble_eq_true rfl)
  rw [lg_entry_eq]
  generalize (lg_sl ([.int x, .int y]) ++ List.replicate (2 - (lg_sl ([.int x, .int y])).length) Slot.unset).toArray = ls at hl ⊢
  have hl : lv_has ls 2 [(0, .int x), (1, .int y)] := hl
  rw [hH]
  refine lv_iload_n hx hb d_Bd_refuseWrongName_0 rfl (lv_at hl 0 rfl) ?_
  refine x_callP (va_runS (As := [.int x]) (rest := []) ⟨hx, hb, hml, hown, htb⟩ (c_Bd_isSort l h.1) (x_cS 1 htb mw_193 mw_1 mw_195 mw_194 rfl rfl (by decide +kernel) ⟨Nat.le_of_ble_eq_true rfl, Nat.le_of_ble_eq_true rfl⟩) (x_preS hK hN) rfl rfl hl.1 rfl (lv_room (Nat.le_of_ble_eq_true rfl)) d_Bd_refuseWrongName_1 ⟨Nat.le_of_ble_eq_true rfl, Nat.le_of_ble_eq_true rfl⟩) ?_
  refine W.eq (g2 := F0 m 4 ls [.int 1]) rfl ?_
  refine lv_if_eq (tgt := 11) hx hb d_Bd_refuseWrongName_4 (by decide) (fun c9 => absurd c9 (by decide)) (fun _ => ?_)
  refine lv_iload_n hx hb d_Bd_refuseWrongName_7 rfl (lv_at hl 1 rfl) ?_
  refine lv_if_ge (tgt := 21) hx hb d_Bd_refuseWrongName_8 (by decide) (fun _ => ?_) (fun c9 => absurd (Int32.not_lt.mp h.2) c9)
  exact x_vret hx hb hr hlocks rfl (fun q hq => by cases hq) (Nat.le_refl _) (Nat.le_refl _) d_Bd_refuseWrongName_21
set_option maxHeartbeats 4000000 in
set_option maxRecDepth 100000 in
theorem c_Bd_refuseT (l : Launch) (hlt0 : l.stackTraces = false) {D : va_G} {A : Nat → ClassId} {H0 : Heap} {M : Nat → Prop} {x y : Int32} (h : ¬ g_ok x y) : x_MetT l y_Bd_refuseWrongName w_Bd_refuseWrongName { frames := 6, cells := 1, slots := 6, locals := 90 } (x_PcT D A M [.int x, .int y] H0) (x_QT "java/lang/IndexOutOfBoundsException" (fun H1 => H0.size ≤ H1.size ∧ ∀ q : Nat, q < H0.size → H1[q]? = H0[q]?)) 1 6 (fun q => H0.size ≤ q) := by
  refine x_ofWT (cc := prog_1_method_15_code) (maxL := 2) (ret := none) (by decide) rfl ?_
  intro p e s m args below meth c s₁ B hml hv
  obtain ⟨rfl, hH, hK, hN, hT⟩ := hv
  obtain ⟨hx, hb, hr, htb, hown, hlocks⟩ := x_start (wd := Cond.code y_Bd_refuseWrongName prog_1_method_15_code 2 none) B
  have hout := x_nohand B
  have hTs : x_T M s s.heap := by rw [hH]; exact hT
  have hl := lv_entry ([.int x, .int y]) (n := 2) (Nat.le_of_ble_eq_true rfl)
  rw [lg_entry_eq]
  generalize (lg_sl ([.int x, .int y]) ++ List.replicate (2 - (lg_sl ([.int x, .int y])).length) Slot.unset).toArray = ls at hl ⊢
  have hl : lv_has ls 2 [(0, .int x), (1, .int y)] := hl
  rw [hH]
  have hL : ∀ q ∈ ([] : List Loc), (fun q : Nat => H0.size ≤ q) q.base := fun q hq => by cases hq
  refine lv_iload_n hx hb d_Bd_refuseWrongName_0 rfl (lv_at hl 0 rfl) ?_
  by_cases hs : g_sort x
  · refine x_callP (va_runS (As := [.int x]) (rest := []) ⟨hx, hb, hml, hown, htb⟩ (c_Bd_isSort l hs) (x_cS 1 htb mw_193 mw_1 mw_195 mw_194 rfl rfl (by decide +kernel) ⟨Nat.le_of_ble_eq_true rfl, Nat.le_of_ble_eq_true rfl⟩) (x_preS hK hN) rfl rfl hl.1 rfl (lv_room (Nat.le_of_ble_eq_true rfl)) d_Bd_refuseWrongName_1 ⟨Nat.le_of_ble_eq_true rfl, Nat.le_of_ble_eq_true rfl⟩) ?_
    refine W.eq (g2 := F0 m 4 ls [.int 1]) rfl ?_
    refine lv_if_eq (tgt := 11) hx hb d_Bd_refuseWrongName_4 (by decide) (fun c9 => absurd c9 (by decide)) (fun _ => ?_)
    refine lv_iload_n hx hb d_Bd_refuseWrongName_7 rfl (lv_at hl 1 rfl) ?_
    refine lv_if_ge (tgt := 21) hx hb d_Bd_refuseWrongName_8 (by decide) (fun c9 => absurd c9 (fun w => h ⟨hs, Int32.not_lt.mpr w⟩)) (fun _ => ?_)
    exact x_thr hx hb hlt0 (by rw [hml]; exact hl.1.symm) hown (by decide) (by decide) (fun a ha => x_own htb hN hTs a (ow_171 a ha)) (htb _ mw_333) (htb _ mw_14) (htb _ mw_334) (hN.2 (169, "no such SORT or TIME") (List.mem_of_getElem? (i := 1) rfl)) d_Bd_refuseWrongName_11 d_Bd_refuseWrongName_14 d_Bd_refuseWrongName_15 d_Bd_refuseWrongName_17 d_Bd_refuseWrongName_20 hout (Nat.le_of_ble_eq_true rfl) (Nat.le_of_ble_eq_true rfl) (Nat.le_of_ble_eq_true rfl) (Nat.le_of_ble_eq_true rfl) (Nat.le_of_eq (by rw [hH])) (fun t cell e1 e2 e3 e4 e5 => ⟨_, cell, rfl, e1, e2, e3, by rw [← hH]; exact ⟨e4, e5⟩⟩) hlocks
  · refine x_callP (va_runS (As := [.int x]) (rest := []) ⟨hx, hb, hml, hown, htb⟩ (c_Bd_isSortN l hs) (x_cS 1 htb mw_193 mw_1 mw_195 mw_194 rfl rfl (by decide +kernel) ⟨Nat.le_of_ble_eq_true rfl, Nat.le_of_ble_eq_true rfl⟩) (x_preS hK hN) rfl rfl hl.1 rfl (lv_room (Nat.le_of_ble_eq_true rfl)) d_Bd_refuseWrongName_1 ⟨Nat.le_of_ble_eq_true rfl, Nat.le_of_ble_eq_true rfl⟩) ?_
    refine W.eq (g2 := F0 m 4 ls [.int 0]) rfl ?_
    refine lv_if_eq (tgt := 11) hx hb d_Bd_refuseWrongName_4 (by decide) (fun _ => ?_) (fun c9 => absurd rfl c9)
    exact x_thr hx hb hlt0 (by rw [hml]; exact hl.1.symm) hown (by decide) (by decide) (fun a ha => x_own htb hN hTs a (ow_171 a ha)) (htb _ mw_333) (htb _ mw_14) (htb _ mw_334) (hN.2 (169, "no such SORT or TIME") (List.mem_of_getElem? (i := 1) rfl)) d_Bd_refuseWrongName_11 d_Bd_refuseWrongName_14 d_Bd_refuseWrongName_15 d_Bd_refuseWrongName_17 d_Bd_refuseWrongName_20 hout (Nat.le_of_ble_eq_true rfl) (Nat.le_of_ble_eq_true rfl) (Nat.le_of_ble_eq_true rfl) (Nat.le_of_ble_eq_true rfl) (Nat.le_of_eq (by rw [hH])) (fun t cell e1 e2 e3 e4 e5 => ⟨_, cell, rfl, e1, e2, e3, by rw [← hH]; exact ⟨e4, e5⟩⟩) hlocks
set_option maxHeartbeats 4000000 in
set_option maxRecDepth 100000 in
theorem c_Bd_refuseFull (l : Launch) {D : va_G} {A : Nat → ClassId} {H0 : Heap} {a z : Nat} {S : g_S} (hd : g_D D A a z S H0) (hlt : S.2.2.2.2.2.1.length < 200) : Met l y_Bd_refuseFullJournal w_Bd_refuseFullJournal { frames := 1, cells := 0, slots := 0, locals := 20 } (x_Pc D A [.ref a] H0) (x_Q none (fun H1 => H1 = H0)) 0 0 (fun _ => False) := by
  refine Met.ofW (cc := prog_1_method_16_code) (maxL := 1) (ret := none) (by decide) rfl ?_
  intro p e s m args below meth c s₁ B hml hv
  obtain ⟨rfl, hH, hK, hN⟩ := hv
  obtain ⟨hx, hb, hr, htb, hown, hlocks⟩ := x_start (wd := Cond.code y_Bd_refuseFullJournal prog_1_method_16_code 1 none) B
  have hl := lv_entry ([.ref a]) (n := 1) (Nat.le_of_ble_eq_true rfl)
  rw [lg_entry_eq]
  generalize (lg_sl ([.ref a]) ++ List.replicate (1 - (lg_sl ([.ref a])).length) Slot.unset).toArray = ls at hl ⊢
  have hl : lv_has ls 1 [(0, .ref a)] := hl
  rw [hH]
  obtain ⟨pa, as, bs, cs, ds, h1, h2, h3, ⟨h4, h4s⟩, ⟨h5, h5s⟩, ⟨h6, h6s⟩, ⟨h7, h7s⟩, h8, h9⟩ := id hd
  obtain ⟨g7, g71, -⟩ := id h7
  refine lv_aload_n hx hb d_Bd_refuseFullJournal_0 rfl (lv_at hl 0 rfl) ?_
  refine x_get (ci := 7) (T := T_Bd) hx hb htb u_Bd hown hK h1 rfl 4 (by decide) (htb _ mw_89) (fun _ h9 => h9) (v := .ref (z + 8)) rfl d_Bd_refuseFullJournal_1 ?_
  refine x_callP (va_runV (As := []) (rest := []) ⟨hx, hb, hml, hown, htb⟩ (c_Jo_isFull l h7) (x_cV 0 htb mw_370 mw_4 mw_373 mw_371 mw_372 rfl rfl (by decide +kernel) ⟨Nat.le_of_ble_eq_true rfl, Nat.le_of_ble_eq_true rfl⟩) (x_preV hK hN g71 rfl) rfl rfl hl.1 rfl (lv_room (Nat.le_of_ble_eq_true rfl)) d_Bd_refuseFullJournal_4 ⟨Nat.le_of_ble_eq_true rfl, Nat.le_of_ble_eq_true rfl⟩) ?_
  refine W.eq (g2 := F0 m 7 ls [.int (if 200 ≤ ds.length then 1 else 0)]) rfl ?_
  refine lv_if_eq (tgt := 20) hx hb d_Bd_refuseFullJournal_7 (by decide) (fun _ => ?_) (fun c9 => absurd (if_neg (by rw [h7s.1]; omega)) c9)
  exact x_vret hx hb hr hlocks rfl (fun q hq => by cases hq) (Nat.le_refl _) (Nat.le_refl _) d_Bd_refuseFullJournal_20
set_option maxHeartbeats 4000000 in
set_option maxRecDepth 100000 in
theorem c_Bd_refuseFullT (l : Launch) (hlt0 : l.stackTraces = false) {D : va_G} {A : Nat → ClassId} {H0 : Heap} {a z : Nat} {S : g_S} (hd : g_D D A a z S H0) (hge : 200 ≤ S.2.2.2.2.2.1.length) : x_MetT l y_Bd_refuseFullJournal w_Bd_refuseFullJournal { frames := 6, cells := 1, slots := 6, locals := 90 } (x_PcT D A (g_Mx a z) [.ref a] H0) (x_QT "java/lang/IllegalStateException" (fun H1 => H0.size ≤ H1.size ∧ ∀ q : Nat, q < H0.size → H1[q]? = H0[q]?)) 1 6 (fun q => H0.size ≤ q) := by
  refine x_ofWT (cc := prog_1_method_16_code) (maxL := 1) (ret := none) (by decide) rfl ?_
  intro p e s m args below meth c s₁ B hml hv
  obtain ⟨rfl, hH, hK, hN, hT⟩ := hv
  obtain ⟨hx, hb, hr, htb, hown, hlocks⟩ := x_start (wd := Cond.code y_Bd_refuseFullJournal prog_1_method_16_code 1 none) B
  have hout := x_nohand B
  have hTs : x_T (g_Mx a z) s s.heap := by rw [hH]; exact hT
  have hl := lv_entry ([.ref a]) (n := 1) (Nat.le_of_ble_eq_true rfl)
  rw [lg_entry_eq]
  generalize (lg_sl ([.ref a]) ++ List.replicate (1 - (lg_sl ([.ref a])).length) Slot.unset).toArray = ls at hl ⊢
  have hl : lv_has ls 1 [(0, .ref a)] := hl
  rw [hH]
  have hL : ∀ q ∈ ([] : List Loc), (fun q : Nat => H0.size ≤ q) q.base := fun q hq => by cases hq
  obtain ⟨pa, as, bs, cs, ds, h1, h2, h3, ⟨h4, h4s⟩, ⟨h5, h5s⟩, ⟨h6, h6s⟩, ⟨h7, h7s⟩, h8, h9⟩ := id hd
  obtain ⟨g7, g71, -⟩ := id h7
  refine lv_aload_n hx hb d_Bd_refuseFullJournal_0 rfl (lv_at hl 0 rfl) ?_
  refine x_get (ci := 7) (T := T_Bd) hx hb htb u_Bd hown hK h1 rfl 4 (by decide) (htb _ mw_89) (fun _ h9 => h9) (v := .ref (z + 8)) rfl d_Bd_refuseFullJournal_1 ?_
  refine x_callP (va_runV (As := []) (rest := []) ⟨hx, hb, hml, hown, htb⟩ (c_Jo_isFull l h7) (x_cV 0 htb mw_370 mw_4 mw_373 mw_371 mw_372 rfl rfl (by decide +kernel) ⟨Nat.le_of_ble_eq_true rfl, Nat.le_of_ble_eq_true rfl⟩) (x_preV hK hN g71 rfl) rfl rfl hl.1 rfl (lv_room (Nat.le_of_ble_eq_true rfl)) d_Bd_refuseFullJournal_4 ⟨Nat.le_of_ble_eq_true rfl, Nat.le_of_ble_eq_true rfl⟩) ?_
  refine W.eq (g2 := F0 m 7 ls [.int (if 200 ≤ ds.length then 1 else 0)]) rfl ?_
  refine lv_if_eq (tgt := 20) hx hb d_Bd_refuseFullJournal_7 (by decide) (fun c9 => absurd c9 (by rw [if_pos (by rw [h7s.1]; exact hge)]; decide)) (fun _ => ?_)
  exact x_thr hx hb hlt0 (by rw [hml]; exact hl.1.symm) hown (by decide) (by decide) (fun a ha => x_own htb hN hTs a (ow_90 a ha)) (htb _ mw_350) (htb _ mw_17) (htb _ mw_351) (hN.2 (173, "200 operations were done since the latest SYNC") (List.mem_of_getElem? (i := 3) rfl)) d_Bd_refuseFullJournal_10 d_Bd_refuseFullJournal_13 d_Bd_refuseFullJournal_14 d_Bd_refuseFullJournal_16 d_Bd_refuseFullJournal_19 hout (Nat.le_of_ble_eq_true rfl) (Nat.le_of_ble_eq_true rfl) (Nat.le_of_ble_eq_true rfl) (Nat.le_of_ble_eq_true rfl) (Nat.le_of_eq (by rw [hH])) (fun t cell e1 e2 e3 e4 e5 => ⟨_, cell, rfl, e1, e2, e3, by rw [← hH]; exact ⟨e4, e5⟩⟩) hlocks
theorem g_get_ex {fs : List g_F} {n : g_N} {f : g_F} (h : g_get fs n = some f) : ∃ j, g_find fs n = some j ∧ fs[j]? = some f := by
  unfold g_get at h
  cases hf : g_find fs n with
  | none => rw [hf] at h; cases h
  | some j => rw [hf] at h; exact ⟨j, rfl, h⟩
theorem g_get_no {fs : List g_F} {n : g_N} (h : g_get fs n = none) : g_find fs n = none := by
  cases hf : g_find fs n with
  | none => rfl
  | some j =>
    obtain ⟨f, hff⟩ := g_ex (g_find_lt hf)
    rw [g_get_some hf hff] at h
    cases h
set_option maxHeartbeats 4000000 in
set_option maxRecDepth 100000 in
theorem c_Bd_fileToChange (l : Launch) {D : va_G} {A : Nat → ClassId} {H0 : Heap} {a z : Nat} {S : g_S} (hd : g_D D A a z S H0) {x y : Int32} {f : g_F} (hg : g_get S.2.2.1 (x, y, S.2.1) = some f) : Met l y_Bd_fileToChange w_Bd_fileToChange { frames := 4, cells := 1, slots := 3, locals := 88 } (x_Pc D A [.ref a, .int x, .int y] H0) (x_Qr (fun fa H1 => g_sf D A (g_Mx a z) fa f H1 ∧ H0.size ≤ H1.size ∧ ∀ q : Nat, q < H0.size → H1[q]? = H0[q]?)) 1 3 (fun q => H0.size ≤ q) := by
  refine Met.ofW (cc := prog_1_method_17_code) (maxL := 4) (ret := (some (.object "BreakingDisk$StoredFile"))) (by decide) rfl ?_
  intro p e s m args below meth c s₁ B hml hv
  obtain ⟨rfl, hH, hK, hN⟩ := hv
  obtain ⟨hx, hb, hr, htb, hown, hlocks⟩ := x_start (wd := Cond.code y_Bd_fileToChange prog_1_method_17_code 4 (some (.object "BreakingDisk$StoredFile"))) B
  have hl := lv_entry ([.ref a, .int x, .int y]) (n := 4) (Nat.le_of_ble_eq_true rfl)
  rw [lg_entry_eq]
  generalize (lg_sl ([.ref a, .int x, .int y]) ++ List.replicate (4 - (lg_sl ([.ref a, .int x, .int y])).length) Slot.unset).toArray = ls at hl ⊢
  have hl : lv_has ls 4 [(0, .ref a), (1, .int x), (2, .int y)] := hl
  rw [hH]
  obtain ⟨pa, as, bs, cs, ds, h1, h2, h3, ⟨h4, h4s⟩, ⟨h5, h5s⟩, ⟨h6, h6s⟩, ⟨h7, h7s⟩, h8, h9⟩ := id hd
  have hL : ∀ q ∈ ([] : List Loc), (fun q : Nat => H0.size ≤ q) q.base := fun q hq => by cases hq
  refine lv_aload_n hx hb d_Bd_fileToChange_0 rfl (lv_at hl 0 rfl) ?_
  refine x_get (ci := 7) (T := T_Bd) hx hb htb u_Bd hown hK h1 rfl 1 (by decide) (htb _ mw_86) (fun _ h9 => h9) (v := .ref (z + 2)) rfl d_Bd_fileToChange_1 ?_
  refine lv_aload_n hx hb d_Bd_fileToChange_4 rfl (lv_at hl 0 rfl) ?_
  refine lv_iload_n hx hb d_Bd_fileToChange_5 rfl (lv_at hl 1 rfl) ?_
  refine lv_iload_n hx hb d_Bd_fileToChange_6 rfl (lv_at hl 2 rfl) ?_
  refine x_call (F := fun q : Nat => H0.size ≤ q) (va_runV (As := [.int x, .int y]) (rest := [.ref (z + 2)]) ⟨hx, hb, hml, hown, htb⟩ (c_Bd_nameOf l hd x y) (x_cV 2 htb mw_131 mw_1 mw_134 mw_133 ms_0 rfl rfl (by decide +kernel) ⟨Nat.le_of_ble_eq_true rfl, Nat.le_of_ble_eq_true rfl⟩) (x_preV hK hN h1 rfl) rfl rfl hl.1 rfl (lv_room (Nat.le_of_ble_eq_true rfl)) d_Bd_fileToChange_7 ⟨Nat.le_of_ble_eq_true rfl, Nat.le_of_ble_eq_true rfl⟩) hL (fun q hq => hq) (fun H1 locs hP hL => ?_)
  refine W.eq (g2 := F0 m 10 ls [.ref H0.size, .ref (z + 2)]) rfl ?_
  obtain ⟨k1, k1z, k1o⟩ := hP
  have hd1 := hd.ext (by omega) k1o
  have hk1 : g_K (g_M a z) H0 H1 := g_K.ext k1z k1o
  have h4 := h4.kept (k1o _ (by omega)) (k1o _ (by omega))
  have h4s := h4s.kept hk1
  obtain ⟨g, g1, -⟩ := id h4
  obtain ⟨j, hfi, hff⟩ := g_get_ex hg
  obtain ⟨fa, hfa⟩ := g_ex (as := as) (j := j) (by rw [h4s.1]; exact g_find_lt hfi)
  have hsf := h4s.2 j fa f hfa hff
  refine x_callP (va_runV (As := [.ref H0.size]) (rest := []) ⟨hx, hb, hml, hown, htb⟩ (c_Fi_find l h4 h4s k1 hfi hfa) (x_cV 1 htb mw_154 mw_3 mw_157 mw_155 mw_156 rfl rfl (by decide +kernel) ⟨Nat.le_of_ble_eq_true rfl, Nat.le_of_ble_eq_true rfl⟩) (x_preV hK hN g1 rfl) rfl rfl hl.1 rfl (lv_room (Nat.le_of_ble_eq_true rfl)) d_Bd_fileToChange_10 ⟨Nat.le_of_ble_eq_true rfl, Nat.le_of_ble_eq_true rfl⟩) ?_
  refine W.eq (g2 := F0 m 13 ls [.ref fa]) rfl ?_
  refine lv_astore_n (lv' := [(3, .ref fa), (0, .ref a), (1, .int x), (2, .int y)]) hx hb d_Bd_fileToChange_13 rfl hl (by decide) rfl (fun ls hl => ?_)
  refine lv_aload_n hx hb d_Bd_fileToChange_14 rfl (lv_at hl 0 rfl) ?_
  refine lv_ifnonnull (tgt := 28) hx hb d_Bd_fileToChange_15 (by decide) ?_
  refine lv_aload_n hx hb d_Bd_fileToChange_28 rfl (lv_at hl 0 rfl) ?_
  exact x_aretr hx hb hr (Or.inl ⟨_, rfl⟩) hlocks ⟨hsf, by omega, k1o⟩ hL (Nat.le_refl _) (Nat.le_refl _) d_Bd_fileToChange_29
set_option maxHeartbeats 4000000 in
set_option maxRecDepth 100000 in
theorem c_Bd_fileToChangeT (l : Launch) (hlt0 : l.stackTraces = false) {D : va_G} {A : Nat → ClassId} {H0 : Heap} {a z : Nat} {S : g_S} (hd : g_D D A a z S H0) {x y : Int32} (hg : g_get S.2.2.1 (x, y, S.2.1) = none) : x_MetT l y_Bd_fileToChange w_Bd_fileToChange { frames := 6, cells := 2, slots := 9, locals := 90 } (x_PcT D A (g_Mx a z) [.ref a, .int x, .int y] H0) (x_QT "java/lang/IllegalArgumentException" (fun H1 => H0.size ≤ H1.size ∧ ∀ q : Nat, q < H0.size → H1[q]? = H0[q]?)) 2 9 (fun q => H0.size ≤ q) := by
  refine x_ofWT (cc := prog_1_method_17_code) (maxL := 4) (ret := (some (.object "BreakingDisk$StoredFile"))) (by decide) rfl ?_
  intro p e s m args below meth c s₁ B hml hv
  obtain ⟨rfl, hH, hK, hN, hT⟩ := hv
  obtain ⟨hx, hb, hr, htb, hown, hlocks⟩ := x_start (wd := Cond.code y_Bd_fileToChange prog_1_method_17_code 4 (some (.object "BreakingDisk$StoredFile"))) B
  have hout := x_nohand B
  have hTs : x_T (g_Mx a z) s s.heap := by rw [hH]; exact hT
  have hl := lv_entry ([.ref a, .int x, .int y]) (n := 4) (Nat.le_of_ble_eq_true rfl)
  rw [lg_entry_eq]
  generalize (lg_sl ([.ref a, .int x, .int y]) ++ List.replicate (4 - (lg_sl ([.ref a, .int x, .int y])).length) Slot.unset).toArray = ls at hl ⊢
  have hl : lv_has ls 4 [(0, .ref a), (1, .int x), (2, .int y)] := hl
  rw [hH]
  have hL : ∀ q ∈ ([] : List Loc), (fun q : Nat => H0.size ≤ q) q.base := fun q hq => by cases hq
  obtain ⟨pa, as, bs, cs, ds, h1, h2, h3, ⟨h4, h4s⟩, ⟨h5, h5s⟩, ⟨h6, h6s⟩, ⟨h7, h7s⟩, h8, h9⟩ := id hd
  refine lv_aload_n hx hb d_Bd_fileToChange_0 rfl (lv_at hl 0 rfl) ?_
  refine x_get (ci := 7) (T := T_Bd) hx hb htb u_Bd hown hK h1 rfl 1 (by decide) (htb _ mw_86) (fun _ h9 => h9) (v := .ref (z + 2)) rfl d_Bd_fileToChange_1 ?_
  refine lv_aload_n hx hb d_Bd_fileToChange_4 rfl (lv_at hl 0 rfl) ?_
  refine lv_iload_n hx hb d_Bd_fileToChange_5 rfl (lv_at hl 1 rfl) ?_
  refine lv_iload_n hx hb d_Bd_fileToChange_6 rfl (lv_at hl 2 rfl) ?_
  refine x_call (F := fun q : Nat => H0.size ≤ q) (va_runV (As := [.int x, .int y]) (rest := [.ref (z + 2)]) ⟨hx, hb, hml, hown, htb⟩ (c_Bd_nameOf l hd x y) (x_cV 2 htb mw_131 mw_1 mw_134 mw_133 ms_0 rfl rfl (by decide +kernel) ⟨Nat.le_of_ble_eq_true rfl, Nat.le_of_ble_eq_true rfl⟩) (x_preV hK hN h1 rfl) rfl rfl hl.1 rfl (lv_room (Nat.le_of_ble_eq_true rfl)) d_Bd_fileToChange_7 ⟨Nat.le_of_ble_eq_true rfl, Nat.le_of_ble_eq_true rfl⟩) hL (fun q hq => hq) (fun H1 locs hP hL => ?_)
  refine W.eq (g2 := F0 m 10 ls [.ref H0.size, .ref (z + 2)]) rfl ?_
  obtain ⟨k1, k1z, k1o⟩ := hP
  have hd1 := hd.ext (by omega) k1o
  have hk1 : g_K (g_M a z) H0 H1 := g_K.ext k1z k1o
  have h4 := h4.kept (k1o _ (by omega)) (k1o _ (by omega))
  have h4s := h4s.kept hk1
  obtain ⟨g, g1, -⟩ := id h4
  refine x_callP (va_runV (As := [.ref H0.size]) (rest := []) ⟨hx, hb, hml, hown, htb⟩ (c_Fi_findN l h4 h4s k1 (g_get_no hg)) (x_cV 1 htb mw_154 mw_3 mw_157 mw_155 mw_156 rfl rfl (by decide +kernel) ⟨Nat.le_of_ble_eq_true rfl, Nat.le_of_ble_eq_true rfl⟩) (x_preV hK hN g1 rfl) rfl rfl hl.1 rfl (lv_room (Nat.le_of_ble_eq_true rfl)) d_Bd_fileToChange_10 ⟨Nat.le_of_ble_eq_true rfl, Nat.le_of_ble_eq_true rfl⟩) ?_
  refine W.eq (g2 := F0 m 13 ls [.null]) rfl ?_
  refine lv_astore_nN (lv' := [(3, .null), (0, .ref a), (1, .int x), (2, .int y)]) hx hb d_Bd_fileToChange_13 rfl hl (by decide) rfl (fun ls hl => ?_)
  refine lv_aload_nN hx hb d_Bd_fileToChange_14 rfl (lv_at hl 0 rfl) ?_
  refine lv_ifnonnullN hx hb d_Bd_fileToChange_15 ?_
  refine va_forget (fun q hq => by rw [hH]; exact hL q hq) ?_
  exact x_thr hx hb hlt0 (by rw [hml]; exact hl.1.symm) hown (by decide) (by decide) (fun a ha => x_own htb hN hTs a (ow_60 a ha)) (htb _ mw_232) (htb _ mw_10) (htb _ mw_233) (hN.2 (175, "there is no such file") (List.mem_of_getElem? (i := 4) rfl)) d_Bd_fileToChange_18 d_Bd_fileToChange_21 d_Bd_fileToChange_22 d_Bd_fileToChange_24 d_Bd_fileToChange_27 hout (Nat.le_of_ble_eq_true rfl) (Nat.le_of_ble_eq_true rfl) (Nat.le_of_ble_eq_true rfl) (Nat.le_of_ble_eq_true rfl) (by rw [hH, k1z]; omega) (fun t cell e1 e2 e3 e4 e5 => ⟨_, cell, rfl, e1, e2, e3, by rw [← hH]; exact ⟨e4, e5⟩⟩) hlocks
set_option maxHeartbeats 4000000 in
set_option maxRecDepth 100000 in
theorem c_Bd_pathT (l : Launch) (hlt0 : l.stackTraces = false) {D : va_G} {A : Nat → ClassId} {H0 : Heap} {a z : Nat} {S : g_S} (hd : g_D D A a z S H0) (hlen : 100 < S.1.length) : x_MetT l y_Bd_path w_Bd_path { frames := 6, cells := 1, slots := 6, locals := 103 } (x_PcT D A (g_Mx a z) [.ref a] H0) (x_QT "java/lang/IllegalArgumentException" (fun H1 => H0.size ≤ H1.size ∧ ∀ q : Nat, q < H0.size → H1[q]? = H0[q]?)) 1 6 (fun q => H0.size ≤ q) := by
  refine x_ofWT (cc := prog_1_method_3_code) (maxL := 1) (ret := (some .int)) (by decide) rfl ?_
  intro p e s m args below meth c s₁ B hml hv
  obtain ⟨rfl, hH, hK, hN, hT⟩ := hv
  obtain ⟨hx, hb, hr, htb, hown, hlocks⟩ := x_start (wd := Cond.code y_Bd_path prog_1_method_3_code 1 (some .int)) B
  have hout := x_nohand B
  have hTs : x_T (g_Mx a z) s s.heap := by rw [hH]; exact hT
  have hl := lv_entry ([.ref a]) (n := 1) (Nat.le_of_ble_eq_true rfl)
  rw [lg_entry_eq]
  generalize (lg_sl ([.ref a]) ++ List.replicate (1 - (lg_sl ([.ref a])).length) Slot.unset).toArray = ls at hl ⊢
  have hl : lv_has ls 1 [(0, .ref a)] := hl
  rw [hH]
  have hL : ∀ q ∈ ([] : List Loc), (fun q : Nat => H0.size ≤ q) q.base := fun q hq => by cases hq
  obtain ⟨pa, as, bs, cs, ds, h1, h2, h3, ⟨h4, h4s⟩, ⟨h5, h5s⟩, ⟨h6, h6s⟩, ⟨h7, h7s⟩, h8, h9⟩ := id hd
  obtain ⟨f, t1, -, -, -, t5, -⟩ := id h2
  refine lv_aload_n hx hb d_Bd_path_0 rfl (lv_at hl 0 rfl) ?_
  refine x_get (ci := 7) (T := T_Bd) hx hb htb u_Bd hown hK h1 rfl 0 (by decide) (htb _ mw_85) (fun _ h9 => h9) (v := .ref z) rfl d_Bd_path_1 ?_
  refine x_getN (ci := 4) (T := T_Tp) hx hb htb u_Tp hown hK t1 rfl 1 (by decide) (va_Nw.use rfl (hN.1 _ nf_36)) (fun _ h9 => h9) (v := .int (nI S.1.length)) rfl d_Bd_path_4 ?_
  refine lv_bipush (v := 100) hx hb d_Bd_path_7 (by decide) ?_
  refine lv_icmp_le (tgt := 22) hx hb d_Bd_path_9 (by decide) (fun c9 => absurd c9 (nI_ge (a := 100) (b := S.1.length) hlen (by omega))) (fun _ => ?_)
  exact x_thr hx hb hlt0 (by rw [hml]; exact hl.1.symm) hown (by decide) (by decide) (fun a ha => x_own htb hN hTs a (ow_60 a ha)) (htb _ mw_232) (htb _ mw_10) (htb _ mw_233) (hN.2 (58, "the tape is too long for a PATH") (List.mem_of_getElem? (i := 0) rfl)) d_Bd_path_12 d_Bd_path_15 d_Bd_path_16 d_Bd_path_18 d_Bd_path_21 hout (Nat.le_of_ble_eq_true rfl) (Nat.le_of_ble_eq_true rfl) (Nat.le_of_ble_eq_true rfl) (Nat.le_of_ble_eq_true rfl) (Nat.le_of_eq (by rw [hH])) (fun t cell e1 e2 e3 e4 e5 => ⟨_, cell, rfl, e1, e2, e3, by rw [← hH]; exact ⟨e4, e5⟩⟩) hlocks
set_option maxHeartbeats 4000000 in
set_option maxRecDepth 100000 in
theorem c_Bd_breakOffT (l : Launch) (hlt0 : l.stackTraces = false) {D : va_G} {A : Nat → ClassId} {H0 : Heap} {M : Nat → Prop} {a : Nat} {n : Int32} (hn : n < 0) : x_MetT l y_Bd_breakOff w_Bd_breakOff { frames := 6, cells := 1, slots := 6, locals := 90 } (x_PcT D A M [.ref a, .int n] H0) (x_QT "java/lang/IllegalArgumentException" (fun H1 => H0.size ≤ H1.size ∧ ∀ q : Nat, q < H0.size → H1[q]? = H0[q]?)) 1 6 (fun q => H0.size ≤ q) := by
  refine x_ofWT (cc := prog_1_method_8_code) (maxL := 3) (ret := (some .int)) (by decide) rfl ?_
  intro p e s m args below meth c s₁ B hml hv
  obtain ⟨rfl, hH, hK, hN, hT⟩ := hv
  obtain ⟨hx, hb, hr, htb, hown, hlocks⟩ := x_start (wd := Cond.code y_Bd_breakOff prog_1_method_8_code 3 (some .int)) B
  have hout := x_nohand B
  have hTs : x_T M s s.heap := by rw [hH]; exact hT
  have hl := lv_entry ([.ref a, .int n]) (n := 3) (Nat.le_of_ble_eq_true rfl)
  rw [lg_entry_eq]
  generalize (lg_sl ([.ref a, .int n]) ++ List.replicate (3 - (lg_sl ([.ref a, .int n])).length) Slot.unset).toArray = ls at hl ⊢
  have hl : lv_has ls 3 [(0, .ref a), (1, .int n)] := hl
  rw [hH]
  have hL : ∀ q ∈ ([] : List Loc), (fun q : Nat => H0.size ≤ q) q.base := fun q hq => by cases hq
  refine lv_iload_n hx hb d_Bd_breakOff_0 rfl (lv_at hl 1 rfl) ?_
  refine lv_if_ge (tgt := 14) hx hb d_Bd_breakOff_1 (by decide) (fun c9 => absurd c9 (Int32.not_le.mpr hn)) (fun _ => ?_)
  exact x_thr hx hb hlt0 (by rw [hml]; exact hl.1.symm) hown (by decide) (by decide) (fun a ha => x_own htb hN hTs a (ow_60 a ha)) (htb _ mw_232) (htb _ mw_10) (htb _ mw_233) (hN.2 (127, "n is below 0") (List.mem_of_getElem? (i := 5) rfl)) d_Bd_breakOff_4 d_Bd_breakOff_7 d_Bd_breakOff_8 d_Bd_breakOff_10 d_Bd_breakOff_13 hout (Nat.le_of_ble_eq_true rfl) (Nat.le_of_ble_eq_true rfl) (Nat.le_of_ble_eq_true rfl) (Nat.le_of_ble_eq_true rfl) (Nat.le_of_eq (by rw [hH])) (fun t cell e1 e2 e3 e4 e5 => ⟨_, cell, rfl, e1, e2, e3, by rw [← hH]; exact ⟨e4, e5⟩⟩) hlocks
