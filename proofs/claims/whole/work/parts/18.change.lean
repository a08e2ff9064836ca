/-! THE DISK: write, rename, delete -/
theorem g_bs.weaken {D : va_G} {A : Nat → ClassId} {M M' : Nat → Prop} {a : Nat} {us : List Nat} {H : Heap} (h : g_bs D A M' a us H) (hM : ∀ q, M q → M' q) : g_bs D A M a us H := by
  obtain ⟨r, h1, h2, h3, h4, h5⟩ := h
  exact ⟨r, h1, h2, fun q => h3 (hM _ q), fun q => h4 (hM _ q), h5⟩
set_option maxHeartbeats 4000000 in
set_option maxRecDepth 100000 in
theorem c_Bd_name2 (l : Launch) {D : va_G} {A : Nat → ClassId} {H0 : Heap} {a z pa : Nat} {n : Int32} (h1 : va_at D x_cl (a, .inr (7, [.ref z, .ref (z + 2), .ref (z + 4), .ref (z + 6), .ref (z + 8), .ref pa, .int n])) H0) (x y : Int32) : Met l y_Bd_nameOf w_Bd_nameOf { frames := 2, cells := 1, slots := 3, locals := 35 } (x_Pc D A [.ref a, .int x, .int y] H0) (x_Q (some (.ref H0.size)) (fun H1 => va_at D x_cl (H0.size, .inr (1, [.int x, .int y, .ref pa])) H1 ∧ H1.size = H0.size + 1 ∧ ∀ q : Nat, q < H0.size → H1[q]? = H0[q]?)) 1 3 (fun q => H0.size ≤ q) := by
  refine Met.ofW (cc := prog_1_method_18_code) (maxL := 3) (ret := (some (.object "BreakingDisk$Name"))) (by decide) rfl ?_
  intro p e s m args below meth c s₁ B hml hv
  obtain ⟨rfl, hH, hK, hN⟩ := hv
  obtain ⟨hx, hb, hr, htb, hown, hlocks⟩ := x_start (wd := Cond.code y_Bd_nameOf prog_1_method_18_code 3 (some (.object "BreakingDisk$Name"))) B
  have hl := lv_entry ([.ref a, .int x, .int y]) (n := 3) (Nat.le_of_ble_eq_true rfl)
  rw [lg_entry_eq]
  generalize (lg_sl ([.ref a, .int x, .int y]) ++ List.replicate (3 - (lg_sl ([.ref a, .int x, .int y])).length) Slot.unset).toArray = ls at hl ⊢
  have hl : lv_has ls 3 [(0, .ref a), (1, .int x), (2, .int y)] := hl
  rw [hH]
  have hL : ∀ q ∈ ([] : List Loc), (fun q : Nat => H0.size ≤ q) q.base := fun q hq => by cases hq
  have ha := h1.lt
  have ha : a < H0.size := ha
  refine x_new (ci := 1) (fs := [.int 0, .int 0, .null]) (T := T_Nm) (N := 3) hx hb htb u_Nm t_Nm t_Nm_ok hown (htb _ mw_135) (htb _ mw_136) (htb _ mw_15) hK rfl df_Nm (Nat.le_of_ble_eq_true rfl) (Nat.le_of_ble_eq_true rfl) d_Bd_nameOf_0 (fun H1 k1 k1z k1o => ?_)
  have q1 := h1.kept (k1o a ha)
  refine lv_dup hx hb d_Bd_nameOf_3 rfl ?_
  refine lv_iload_n hx hb d_Bd_nameOf_4 rfl (lv_at hl 1 rfl) ?_
  refine lv_iload_n hx hb d_Bd_nameOf_5 rfl (lv_at hl 2 rfl) ?_
  refine lv_aload_n hx hb d_Bd_nameOf_6 rfl (lv_at hl 0 rfl) ?_
  refine x_get (ci := 7) (T := T_Bd) hx hb htb u_Bd hown hK q1 rfl 5 (by decide) (htb _ mw_90) (fun _ h9 => h9) (v := .ref pa) rfl d_Bd_nameOf_7 ?_
  refine x_call (F := fun q : Nat => H0.size ≤ q) (va_runI (As := [.int x, .int y, .ref pa]) (rest := [.ref H0.size]) ⟨hx, hb, hml, hown, htb⟩ (c_Nm_init l k1) (x_cI 3 htb mw_137 mw_15 mw_139 mw_138 rfl rfl rfl (by decide +kernel) ⟨Nat.le_of_ble_eq_true rfl, Nat.le_of_ble_eq_true rfl⟩) (x_preS hK hN) rfl rfl hl.1 rfl (lv_room (Nat.le_of_ble_eq_true rfl)) d_Bd_nameOf_10 ⟨Nat.le_of_ble_eq_true rfl, Nat.le_of_ble_eq_true rfl⟩) hL (fun q hq => by rw [hq]; exact Nat.le_refl _) (fun H2 locs hP hL => ?_)
  refine W.eq (g2 := F0 m 13 ls [.ref H0.size]) rfl ?_
  obtain ⟨k3, hb3⟩ := hP
  exact x_aret hx hb hr (Or.inl ⟨_, rfl⟩) (Or.inr ⟨_, rfl⟩) hlocks ⟨k3, by rw [hb3.1, k1z], fun q hq => by rw [hb3.2 q (by omega), k1o q hq]⟩ hL (Nat.le_refl _) (Nat.le_refl _) d_Bd_nameOf_13
set_option maxHeartbeats 4000000 in
set_option maxRecDepth 100000 in
theorem c_Bd_write (l : Launch) {D : va_G} {A : Nat → ClassId} {H0 : Heap} {a z : Nat} {S : g_S} (hd : g_D D A a z S H0) {x y : Int32} (hok : g_ok x y) (hroom : S.2.2.1.length < 60 ∨ ∃ f, g_get S.2.2.1 (x, y, S.2.1) = some f) (hlt : S.2.2.2.2.2.1.length < 200) : Met l y_Bd_write w_Bd_write { frames := 6, cells := 5, slots := 408, locals := 132 } (x_Pc D A [.ref a, .int x, .int y] H0) (x_Q none (fun H1 => g_D D A a z ([], S.2.1, g_ap S.2.2.1 ((x, y, S.2.1), some ((x, y, S.2.1), S.1)), S.2.2.2.1, S.2.2.2.2.1, S.2.2.2.2.2.1 ++ [((x, y, S.2.1), some ((x, y, S.2.1), S.1))], S.2.2.2.2.2.2 + 1) H1 ∧ g_K (g_M a z) H0 H1)) 5 408 (x_fr (g_Mx a z) H0) := by
  refine Met.ofW (cc := prog_1_method_4_code) (maxL := 4) (ret := none) (by decide) rfl ?_
  intro p e s m args below meth c s₁ B hml hv
  obtain ⟨rfl, hH, hK, hN⟩ := hv
  obtain ⟨hx, hb, hr, htb, hown, hlocks⟩ := x_start (wd := Cond.code y_Bd_write prog_1_method_4_code 4 none) B
  have hl := lv_entry ([.ref a, .int x, .int y]) (n := 4) (Nat.le_of_ble_eq_true rfl)
  rw [lg_entry_eq]
  generalize (lg_sl ([.ref a, .int x, .int y]) ++ List.replicate (4 - (lg_sl ([.ref a, .int x, .int y])).length) Slot.unset).toArray = ls at hl ⊢
  have hl : lv_has ls 4 [(0, .ref a), (1, .int x), (2, .int y)] := hl
  rw [hH]
  obtain ⟨pa, as, bs, cs, ds, h1, h2, h3, ⟨h4, h4s⟩, ⟨h5, h5s⟩, ⟨h6, h6s⟩, ⟨h7, h7s⟩, h8, h9⟩ := id hd
  have hL : ∀ q ∈ ([] : List Loc), x_fr (g_Mx a z) H0 q.base := fun q hq => by cases hq
  refine lv_iload_n hx hb d_Bd_write_0 rfl (lv_at hl 1 rfl) ?_
  refine lv_iload_n hx hb d_Bd_write_1 rfl (lv_at hl 2 rfl) ?_
  refine x_callP (va_runS (As := [.int x, .int y]) (rest := []) ⟨hx, hb, hml, hown, htb⟩ (c_Bd_refuse l hok) (x_cS 2 htb mw_330 mw_1 mw_332 mw_331 rfl rfl (by decide +kernel) ⟨Nat.le_of_ble_eq_true rfl, Nat.le_of_ble_eq_true rfl⟩) (x_preS hK hN) rfl rfl hl.1 rfl (lv_room (Nat.le_of_ble_eq_true rfl)) d_Bd_write_2 ⟨Nat.le_of_ble_eq_true rfl, Nat.le_of_ble_eq_true rfl⟩) ?_
  refine W.eq (g2 := F0 m 5 ls []) rfl ?_
  refine lv_aload_n hx hb d_Bd_write_5 rfl (lv_at hl 0 rfl) ?_
  refine lv_iload_n hx hb d_Bd_write_6 rfl (lv_at hl 1 rfl) ?_
  refine lv_iload_n hx hb d_Bd_write_7 rfl (lv_at hl 2 rfl) ?_
  refine x_call (F := x_fr (g_Mx a z) H0) (va_runV (As := [.int x, .int y]) (rest := []) ⟨hx, hb, hml, hown, htb⟩ (c_Bd_name2 l h1 x y) (x_cV 2 htb mw_131 mw_1 mw_134 mw_133 ms_0 rfl rfl (by decide +kernel) ⟨Nat.le_of_ble_eq_true rfl, Nat.le_of_ble_eq_true rfl⟩) (x_preV hK hN h1 rfl) rfl rfl hl.1 rfl (lv_room (Nat.le_of_ble_eq_true rfl)) d_Bd_write_8 ⟨Nat.le_of_ble_eq_true rfl, Nat.le_of_ble_eq_true rfl⟩) hL (fun q hq => Or.inr hq) (fun H1 locs hP hL => ?_)
  refine W.eq (g2 := F0 m 11 ls [.ref H0.size]) rfl ?_
  obtain ⟨k1, k1z, k1o⟩ := hP
  have hd1 := hd.ext (by omega) k1o
  have hk1 : g_K (g_M a z) H0 H1 := g_K.ext k1z k1o
  have q1 := h1.kept (k1o a (by omega))
  have q4 := h4.kept (k1o _ (by omega)) (k1o _ (by omega))
  have q4s := h4s.kept hk1
  have qn : g_nm D A (g_Mx a z) H0.size (x, y, S.2.1) H1 := ⟨pa, k1, hd.new _ (Nat.le_refl _), h3.kept hk1⟩
  obtain ⟨g, g1, -⟩ := id q4
  refine lv_astore_n (lv' := [(3, .ref H0.size), (0, .ref a), (1, .int x), (2, .int y)]) hx hb d_Bd_write_11 rfl hl (by decide) rfl (fun ls hl => ?_)
  refine lv_aload_n hx hb d_Bd_write_12 rfl (lv_at hl 1 rfl) ?_
  refine x_get (ci := 7) (T := T_Bd) hx hb htb u_Bd hown hK q1 rfl 1 (by decide) (htb _ mw_86) (fun _ h9 => h9) (v := .ref (z + 2)) rfl d_Bd_write_13 ?_
  have rest43 : ∀ ls, lv_has ls 4 [(3, .ref H0.size), (0, .ref a), (1, .int x), (2, .int y)] → W p l e (headSpec w_Bd_write { frames := 6, cells := 5, slots := 408, locals := 132 }).room s m [Value.ref a, Value.int x, Value.int y].toArray below meth c H1 locs 1 3 (MQ below (x_Q none (fun H1 => g_D D A a z ([], S.2.1, g_ap S.2.2.1 ((x, y, S.2.1), some ((x, y, S.2.1), S.1)), S.2.2.2.1, S.2.2.2.2.1, S.2.2.2.2.2.1 ++ [((x, y, S.2.1), some ((x, y, S.2.1), S.1))], S.2.2.2.2.2.2 + 1) H1 ∧ g_K (g_M a z) H0 H1)) [Value.ref a, Value.int x, Value.int y].toArray s 5 408 (x_fr (g_Mx a z) H0)) (F0 m 43 ls []) := by
    intro ls hl
    refine lv_aload_n hx hb d_Bd_write_43 rfl (lv_at hl 1 rfl) ?_
    refine x_callP (va_runV (As := []) (rest := []) ⟨hx, hb, hml, hown, htb⟩ (c_Bd_refuseFull l hd1 hlt) (x_cV 0 htb mw_366 mw_1 mw_369 mw_368 ms_4 rfl rfl (by decide +kernel) ⟨Nat.le_of_ble_eq_true rfl, Nat.le_of_ble_eq_true rfl⟩) (x_preV hK hN q1 rfl) rfl rfl hl.1 rfl (lv_room (Nat.le_of_ble_eq_true rfl)) d_Bd_write_44 ⟨Nat.le_of_ble_eq_true rfl, Nat.le_of_ble_eq_true rfl⟩) ?_
    refine W.eq (g2 := F0 m 47 ls []) rfl ?_
    refine lv_aload_n hx hb d_Bd_write_47 rfl (lv_at hl 1 rfl) ?_
    refine x_new (ci := 3) (fs := [.null, .null]) (T := T_Op) (N := 2) hx hb htb u_Op t_Op t_Op_ok hown (htb _ mw_375) (htb _ mw_376) (htb _ mw_18) hK rfl df_Op (Nat.le_of_ble_eq_true rfl) (Nat.le_of_ble_eq_true rfl) d_Bd_write_48 (fun H2 k2 k2z k2o => ?_)
    refine lv_dup hx hb d_Bd_write_51 rfl ?_
    refine lv_aload_n hx hb d_Bd_write_52 rfl (lv_at hl 0 rfl) ?_
    refine x_new (ci := 2) (fs := [.null, .null]) (T := T_Sf) (N := 2) hx hb htb u_Sf t_Sf t_Sf_ok hown (htb _ mw_377) (htb _ mw_378) (htb _ mw_19) hK rfl df_Sf (Nat.le_of_ble_eq_true rfl) (Nat.le_of_ble_eq_true rfl) d_Bd_write_53 (fun H3 k3 k3z k3o => ?_)
    refine lv_dup hx hb d_Bd_write_56 rfl ?_
    refine lv_aload_n hx hb d_Bd_write_57 rfl (lv_at hl 0 rfl) ?_
    refine lv_aload_n hx hb d_Bd_write_58 rfl (lv_at hl 1 rfl) ?_
    have hd3 := (hd1.ext (by omega) k2o).ext (by omega) k3o
    obtain ⟨pa3, as3, bs3, cs3, ds3, r1, r2, -⟩ := id hd3
    obtain ⟨f3, t3, -⟩ := id r2
    refine x_get (ci := 7) (T := T_Bd) hx hb htb u_Bd hown hK r1 rfl 0 (by decide) (htb _ mw_85) (fun _ h9 => h9) (v := .ref z) rfl d_Bd_write_59 ?_
    have hz9 := hd.lt
    have hMn : ∀ q, H3.size ≤ q → ¬ (fun q => g_Mx a z q ∨ q = H1.size ∨ q = H2.size) q := fun q hq hM => by
      rcases hM with e | e | e
      · exact hd3.new q hq e
      · omega
      · omega
    refine x_call (F := x_fr (g_Mx a z) H0) (va_runV (As := []) (rest := [.ref H0.size, .ref H2.size, .ref H2.size, .ref H0.size, .ref H1.size, .ref H1.size, .ref a]) ⟨hx, hb, hml, hown, htb⟩ (c_Tp_take l (M := fun q => g_Mx a z q ∨ q = H1.size ∨ q = H2.size) r2 (Or.inl (g_M.in (i := 0) (by decide))) (Or.inl (g_M.in (i := 1) (by decide))) hMn (by omega)) (x_cV 0 htb mw_299 mw_2 mw_302 mw_300 mw_301 rfl rfl (by decide +kernel) ⟨Nat.le_of_ble_eq_true rfl, Nat.le_of_ble_eq_true rfl⟩) (x_preV hK hN t3 rfl) rfl rfl hl.1 rfl (lv_room (Nat.le_of_ble_eq_true rfl)) d_Bd_write_62 ⟨Nat.le_of_ble_eq_true rfl, Nat.le_of_ble_eq_true rfl⟩) hL (fun q hq => hq.elim (fun e => e.elim Or.inl (fun e => Or.inr (by omega))) (fun e => Or.inr (by omega))) (fun H4 locs hP hL => ?_)
    refine W.eq (g2 := F0 m 65 ls [.ref H3.size, .ref H0.size, .ref H2.size, .ref H2.size, .ref H0.size, .ref H1.size, .ref H1.size, .ref a]) rfl ?_
    obtain ⟨b1, b2, b3, b4⟩ := hP
    have k3 := k3.kept (b4 _ (by omega) (by omega) (by omega))
    refine x_call (F := x_fr (g_Mx a z) H0) (va_runI (As := [.ref H0.size, .ref H3.size]) (rest := [.ref H2.size, .ref H0.size, .ref H1.size, .ref H1.size, .ref a]) ⟨hx, hb, hml, hown, htb⟩ (c_Sf_init l k3) (x_cI 2 htb mw_379 mw_19 mw_381 mw_380 rfl rfl rfl (by decide +kernel) ⟨Nat.le_of_ble_eq_true rfl, Nat.le_of_ble_eq_true rfl⟩) (x_preS hK hN) rfl rfl hl.1 rfl (lv_room (Nat.le_of_ble_eq_true rfl)) d_Bd_write_65 ⟨Nat.le_of_ble_eq_true rfl, Nat.le_of_ble_eq_true rfl⟩) hL (fun q hq => Or.inr (by rw [hq]; omega)) (fun H5 locs hP hL => ?_)
    refine W.eq (g2 := F0 m 68 ls [.ref H2.size, .ref H0.size, .ref H1.size, .ref H1.size, .ref a]) rfl ?_
    obtain ⟨k5, hb5⟩ := hP
    have k2 := hb5.at (((k2.kept (k3o _ (by omega)))).kept (b4 _ (by omega) (by omega) (by omega))) (by omega)
    refine x_call (F := x_fr (g_Mx a z) H0) (va_runI (As := [.ref H0.size, .ref H2.size]) (rest := [.ref H1.size, .ref a]) ⟨hx, hb, hml, hown, htb⟩ (c_Op_init l k2) (x_cI 2 htb mw_393 mw_18 mw_395 mw_394 rfl rfl rfl (by decide +kernel) ⟨Nat.le_of_ble_eq_true rfl, Nat.le_of_ble_eq_true rfl⟩) (x_preS hK hN) rfl rfl hl.1 rfl (lv_room (Nat.le_of_ble_eq_true rfl)) d_Bd_write_68 ⟨Nat.le_of_ble_eq_true rfl, Nat.le_of_ble_eq_true rfl⟩) hL (fun q hq => Or.inr (by rw [hq]; omega)) (fun H6 locs hP hL => ?_)
    refine W.eq (g2 := F0 m 71 ls [.ref H1.size, .ref a]) rfl ?_
    obtain ⟨k6, hb6⟩ := hP
    have hz6 : H6.size = H4.size := by rw [hb6.1, hb5.1]
    have hold1 : ∀ q : Nat, q < H1.size → q ≠ z → q ≠ z + 1 → H6[q]? = H1[q]? := fun q hq h1 h2 => by rw [hb6.2 q (by omega), hb5.2 q (by omega), b4 q (by omega) h1 h2, k3o q (by omega), k2o q hq]
    have hold : g_K2 z (z + 1) H0 H6 := ⟨by omega, fun q hq h1 h2 => by rw [hold1 q (by omega) h1 h2, k1o q hq]⟩
    have hk16 : g_K (g_M a z) H1 H6 := ⟨by omega, fun q hq hM => hold1 q hq (fun e => hM (e ▸ g_M.in (i := 0) (by decide))) (fun e => hM (e ▸ g_M.in (i := 1) (by decide)))⟩
    have hd6 := hd.tape1 hold (b2.kept (by rw [hb6.2 _ (by omega), hb5.2 _ (by omega)]) (by rw [hb6.2 _ (by omega), hb5.2 _ (by omega)]))
    have hkM : g_K (fun q => g_Mx a z q ∨ q = H1.size ∨ q = H2.size) H4 H6 := ⟨by omega, fun q _ hM => by rw [hb6.2 q (fun e => hM (Or.inr (Or.inl e))), hb5.2 q (fun e => hM (Or.inr (Or.inr e)))]⟩
    have hbs : g_bs D A (g_Mx a z) H3.size S.1 H6 := (b1.kept hkM).weaken (fun q hq => Or.inl hq)
    have hsf : g_sf D A (g_Mx a z) H2.size ((x, y, S.2.1), S.1) H6 := ⟨H0.size, H3.size, hb6.at k5 (by omega), hd.new _ (by omega), qn.kept hk16, hbs⟩
    have hop : g_op D A (g_Mx a z) H1.size ((x, y, S.2.1), some ((x, y, S.2.1), S.1)) H6 := ⟨H0.size, some H2.size, k6, hd.new _ (by omega), qn.kept hk16, hsf⟩
    obtain ⟨pa6, as6, bs6, cs6, ds6, s1, -⟩ := id hd6
    refine x_call (F := x_fr (g_Mx a z) H0) (va_runV (As := [.ref H1.size]) (rest := []) ⟨hx, hb, hml, hown, htb⟩ (c_Bd_perform l hd6 hop hlt) (x_cV 1 htb mw_406 mw_1 mw_409 mw_408 ms_5 rfl rfl (by decide +kernel) ⟨Nat.le_of_ble_eq_true rfl, Nat.le_of_ble_eq_true rfl⟩) (x_preV hK hN s1 rfl) rfl rfl hl.1 rfl (lv_room (Nat.le_of_ble_eq_true rfl)) d_Bd_write_71 ⟨Nat.le_of_ble_eq_true rfl, Nat.le_of_ble_eq_true rfl⟩) hL (fun q hq => hq.elim Or.inl (fun e => Or.inr (by omega))) (fun H7 locs hP hL => ?_)
    refine W.eq (g2 := F0 m 74 ls []) rfl ?_
    obtain ⟨c1, c2, -⟩ := hP
    have hk06 : g_K (g_M a z) H0 H6 := hk1.trans hk16
    exact x_vret hx hb hr hlocks ⟨c1, hk06.trans c2⟩ hL (Nat.le_refl _) (Nat.le_refl _) d_Bd_write_74
  refine x_callP (va_runV (As := []) (rest := []) ⟨hx, hb, hml, hown, htb⟩ (c_Fi_isFull l q4) (x_cV 0 htb mw_349 mw_3 mw_210 mw_208 mw_209 rfl rfl (by decide +kernel) ⟨Nat.le_of_ble_eq_true rfl, Nat.le_of_ble_eq_true rfl⟩) (x_preV hK hN g1 rfl) rfl rfl hl.1 rfl (lv_room (Nat.le_of_ble_eq_true rfl)) d_Bd_write_16 ⟨Nat.le_of_ble_eq_true rfl, Nat.le_of_ble_eq_true rfl⟩) ?_
  refine W.eq (g2 := F0 m 19 ls [.int (if 60 ≤ as.length then 1 else 0)]) rfl ?_
  refine lv_if_eq (tgt := 43) hx hb d_Bd_write_19 (by decide) (fun c1 => ?_) (fun c1 => ?_)
  · exact rest43 ls (lv_sub hl [0, 1, 2, 3] rfl)
  · have hge : 60 ≤ as.length := Nat.le_of_not_lt fun q => c1 (if_neg (by omega))
    obtain ⟨f, hg⟩ := hroom.resolve_left (by rw [← h4s.1]; omega)
    obtain ⟨j, hfi, hff⟩ := g_get_ex hg
    obtain ⟨fa, hfa⟩ := g_ex (as := as) (j := j) (by rw [q4s.1]; exact g_find_lt hfi)
    refine lv_aload_n hx hb d_Bd_write_22 rfl (lv_at hl 1 rfl) ?_
    refine x_get (ci := 7) (T := T_Bd) hx hb htb u_Bd hown hK q1 rfl 1 (by decide) (htb _ mw_86) (fun _ h9 => h9) (v := .ref (z + 2)) rfl d_Bd_write_23 ?_
    refine lv_aload_n hx hb d_Bd_write_26 rfl (lv_at hl 0 rfl) ?_
    refine x_callP (va_runV (As := [.ref H0.size]) (rest := []) ⟨hx, hb, hml, hown, htb⟩ (c_Fi_find l q4 q4s qn hfi hfa) (x_cV 1 htb mw_154 mw_3 mw_157 mw_155 mw_156 rfl rfl (by decide +kernel) ⟨Nat.le_of_ble_eq_true rfl, Nat.le_of_ble_eq_true rfl⟩) (x_preV hK hN g1 rfl) rfl rfl hl.1 rfl (lv_room (Nat.le_of_ble_eq_true rfl)) d_Bd_write_27 ⟨Nat.le_of_ble_eq_true rfl, Nat.le_of_ble_eq_true rfl⟩) ?_
    refine W.eq (g2 := F0 m 30 ls [.ref fa]) rfl ?_
    refine lv_ifnonnull (tgt := 43) hx hb d_Bd_write_30 (by decide) ?_
    exact rest43 ls (lv_sub hl [0, 1, 2, 3] rfl)
set_option maxHeartbeats 4000000 in
set_option maxRecDepth 100000 in
theorem c_Bd_writeT1 (l : Launch) (hlt0 : l.stackTraces = false) {D : va_G} {A : Nat → ClassId} {H0 : Heap} {a z : Nat} {S : g_S} (hd : g_D D A a z S H0) {x y : Int32} (hok : ¬ g_ok x y) : x_MetT l y_Bd_write w_Bd_write { frames := 7, cells := 1, slots := 6, locals := 111 } (x_PcT D A (g_Mx a z) [.ref a, .int x, .int y] H0) (x_QT "java/lang/IndexOutOfBoundsException" (fun H1 => H0.size ≤ H1.size ∧ ∀ q : Nat, q < H0.size → H1[q]? = H0[q]?)) 1 6 (fun q => H0.size ≤ q) := by
  refine x_ofWT (cc := prog_1_method_4_code) (maxL := 4) (ret := none) (by decide) rfl ?_
  intro p e s m args below meth c s₁ B hml hv
  obtain ⟨rfl, hH, hK, hN, hT⟩ := hv
  obtain ⟨hx, hb, hr, htb, hown, hlocks⟩ := x_start (wd := Cond.code y_Bd_write prog_1_method_4_code 4 none) B
  have hout := x_nohand B
  have hTs : x_T (g_Mx a z) s s.heap := by rw [hH]; exact hT
  have hl := lv_entry ([.ref a, .int x, .int y]) (n := 4) (Nat.le_of_ble_eq_true rfl)
  rw [lg_entry_eq]
  generalize (lg_sl ([.ref a, .int x, .int y]) ++ List.replicate (4 - (lg_sl ([.ref a, .int x, .int y])).length) Slot.unset).toArray = ls at hl ⊢
  have hl : lv_has ls 4 [(0, .ref a), (1, .int x), (2, .int y)] := hl
  rw [hH]
  have hL : ∀ q ∈ ([] : List Loc), (fun q : Nat => H0.size ≤ q) q.base := fun q hq => by cases hq
  refine lv_iload_n hx hb d_Bd_write_0 rfl (lv_at hl 1 rfl) ?_
  refine lv_iload_n hx hb d_Bd_write_1 rfl (lv_at hl 2 rfl) ?_
  exact x_leaveT (F := fun q : Nat => H0.size ≤ q) (x_runST (As := [.int x, .int y]) (rest := []) ⟨hx, hb, hml, hown, htb⟩ (c_Bd_refuseT l hlt0 hok) (x_cS 2 htb mw_330 mw_1 mw_332 mw_331 rfl rfl (by decide +kernel) ⟨Nat.le_of_ble_eq_true rfl, Nat.le_of_ble_eq_true rfl⟩) (x_preST hK hN hT) rfl rfl hl.1 rfl (lv_room (Nat.le_of_ble_eq_true rfl)) d_Bd_write_2 ⟨Nat.le_of_ble_eq_true rfl, Nat.le_of_ble_eq_true rfl⟩) hL (fun q hq => hq) hout hlocks (fun H1 q => q)
set_option maxHeartbeats 4000000 in
set_option maxRecDepth 100000 in
theorem c_Bd_writeT2 (l : Launch) (hlt0 : l.stackTraces = false) {D : va_G} {A : Nat → ClassId} {H0 : Heap} {a z : Nat} {S : g_S} (hd : g_D D A a z S H0) {x y : Int32} (hok : g_ok x y) (hbad : 200 ≤ S.2.2.2.2.2.1.length ∨ (60 ≤ S.2.2.1.length ∧ g_get S.2.2.1 (x, y, S.2.1) = none)) : x_MetT l y_Bd_write w_Bd_write { frames := 7, cells := 2, slots := 9, locals := 110 } (x_PcT D A (g_Mx a z) [.ref a, .int x, .int y] H0) (x_QT "java/lang/IllegalStateException" (fun H1 => H0.size ≤ H1.size ∧ ∀ q : Nat, q < H0.size → H1[q]? = H0[q]?)) 2 9 (fun q => H0.size ≤ q) := by
  refine x_ofWT (cc := prog_1_method_4_code) (maxL := 4) (ret := none) (by decide) rfl ?_
  intro p e s m args below meth c s₁ B hml hv
  obtain ⟨rfl, hH, hK, hN, hT⟩ := hv
  obtain ⟨hx, hb, hr, htb, hown, hlocks⟩ := x_start (wd := Cond.code y_Bd_write prog_1_method_4_code 4 none) B
  have hout := x_nohand B
  have hTs : x_T (g_Mx a z) s s.heap := by rw [hH]; exact hT
  have hl := lv_entry ([.ref a, .int x, .int y]) (n := 4) (Nat.le_of_ble_eq_true rfl)
  rw [lg_entry_eq]
  generalize (lg_sl ([.ref a, .int x, .int y]) ++ List.replicate (4 - (lg_sl ([.ref a, .int x, .int y])).length) Slot.unset).toArray = ls at hl ⊢
  have hl : lv_has ls 4 [(0, .ref a), (1, .int x), (2, .int y)] := hl
  rw [hH]
  have hL : ∀ q ∈ ([] : List Loc), (fun q : Nat => H0.size ≤ q) q.base := fun q hq => by cases hq
  obtain ⟨pa, as, bs, cs, ds, h1, h2, h3, ⟨h4, h4s⟩, ⟨h5, h5s⟩, ⟨h6, h6s⟩, ⟨h7, h7s⟩, h8, h9⟩ := id hd
  refine lv_iload_n hx hb d_Bd_write_0 rfl (lv_at hl 1 rfl) ?_
  refine lv_iload_n hx hb d_Bd_write_1 rfl (lv_at hl 2 rfl) ?_
  refine x_callP (va_runS (As := [.int x, .int y]) (rest := []) ⟨hx, hb, hml, hown, htb⟩ (c_Bd_refuse l hok) (x_cS 2 htb mw_330 mw_1 mw_332 mw_331 rfl rfl (by decide +kernel) ⟨Nat.le_of_ble_eq_true rfl, Nat.le_of_ble_eq_true rfl⟩) (x_preS hK hN) rfl rfl hl.1 rfl (lv_room (Nat.le_of_ble_eq_true rfl)) d_Bd_write_2 ⟨Nat.le_of_ble_eq_true rfl, Nat.le_of_ble_eq_true rfl⟩) ?_
  refine W.eq (g2 := F0 m 5 ls []) rfl ?_
  refine lv_aload_n hx hb d_Bd_write_5 rfl (lv_at hl 0 rfl) ?_
  refine lv_iload_n hx hb d_Bd_write_6 rfl (lv_at hl 1 rfl) ?_
  refine lv_iload_n hx hb d_Bd_write_7 rfl (lv_at hl 2 rfl) ?_
  refine x_call (F := fun q : Nat => H0.size ≤ q) (va_runV (As := [.int x, .int y]) (rest := []) ⟨hx, hb, hml, hown, htb⟩ (c_Bd_name2 l h1 x y) (x_cV 2 htb mw_131 mw_1 mw_134 mw_133 ms_0 rfl rfl (by decide +kernel) ⟨Nat.le_of_ble_eq_true rfl, Nat.le_of_ble_eq_true rfl⟩) (x_preV hK hN h1 rfl) rfl rfl hl.1 rfl (lv_room (Nat.le_of_ble_eq_true rfl)) d_Bd_write_8 ⟨Nat.le_of_ble_eq_true rfl, Nat.le_of_ble_eq_true rfl⟩) hL (fun q hq => hq) (fun H1 locs hP hL => ?_)
  refine W.eq (g2 := F0 m 11 ls [.ref H0.size]) rfl ?_
  obtain ⟨k1, k1z, k1o⟩ := hP
  have hd1 := hd.ext (by omega) k1o
  have hk1 : g_K (g_M a z) H0 H1 := g_K.ext k1z k1o
  have hT := hT.kept hk1
  have q1 := h1.kept (k1o a (by omega))
  have q4 := h4.kept (k1o _ (by omega)) (k1o _ (by omega))
  have q4s := h4s.kept hk1
  have qn : g_nm D A (g_Mx a z) H0.size (x, y, S.2.1) H1 := ⟨pa, k1, hd.new _ (Nat.le_refl _), h3.kept hk1⟩
  obtain ⟨g, g1, -⟩ := id q4
  refine lv_astore_n (lv' := [(3, .ref H0.size), (0, .ref a), (1, .int x), (2, .int y)]) hx hb d_Bd_write_11 rfl hl (by decide) rfl (fun ls hl => ?_)
  refine lv_aload_n hx hb d_Bd_write_12 rfl (lv_at hl 1 rfl) ?_
  refine x_get (ci := 7) (T := T_Bd) hx hb htb u_Bd hown hK q1 rfl 1 (by decide) (htb _ mw_86) (fun _ h9 => h9) (v := .ref (z + 2)) rfl d_Bd_write_13 ?_
  refine x_callP (va_runV (As := []) (rest := []) ⟨hx, hb, hml, hown, htb⟩ (c_Fi_isFull l q4) (x_cV 0 htb mw_349 mw_3 mw_210 mw_208 mw_209 rfl rfl (by decide +kernel) ⟨Nat.le_of_ble_eq_true rfl, Nat.le_of_ble_eq_true rfl⟩) (x_preV hK hN g1 rfl) rfl rfl hl.1 rfl (lv_room (Nat.le_of_ble_eq_true rfl)) d_Bd_write_16 ⟨Nat.le_of_ble_eq_true rfl, Nat.le_of_ble_eq_true rfl⟩) ?_
  refine W.eq (g2 := F0 m 19 ls [.int (if 60 ≤ as.length then 1 else 0)]) rfl ?_
  refine lv_if_eq (tgt := 43) hx hb d_Bd_write_19 (by decide) (fun c1 => ?_) (fun c1 => ?_)
  · have hb2 : 200 ≤ S.2.2.2.2.2.1.length := hbad.resolve_right (fun e => by rw [if_pos (by rw [h4s.1]; exact e.1)] at c1; exact absurd c1 (by decide))
    refine lv_aload_n hx hb d_Bd_write_43 rfl (lv_at hl 1 rfl) ?_
    exact x_leaveT (F := fun q : Nat => H0.size ≤ q) (x_runVT (As := []) (rest := []) ⟨hx, hb, hml, hown, htb⟩ (c_Bd_refuseFullT l hlt0 hd1 hb2) (x_cV 0 htb mw_366 mw_1 mw_369 mw_368 ms_4 rfl rfl (by decide +kernel) ⟨Nat.le_of_ble_eq_true rfl, Nat.le_of_ble_eq_true rfl⟩) (x_preVT hK hN hT q1 rfl) rfl rfl hl.1 rfl (lv_room (Nat.le_of_ble_eq_true rfl)) d_Bd_write_44 ⟨Nat.le_of_ble_eq_true rfl, Nat.le_of_ble_eq_true rfl⟩) hL (fun q hq => by have hq : H1.size ≤ q := hq; omega) hout hlocks (fun H2 q => ⟨by omega, fun q2 hq2 => by rw [q.2 q2 (by omega), k1o q2 hq2]⟩)
  · refine lv_aload_n hx hb d_Bd_write_22 rfl (lv_at hl 1 rfl) ?_
    refine x_get (ci := 7) (T := T_Bd) hx hb htb u_Bd hown hK q1 rfl 1 (by decide) (htb _ mw_86) (fun _ h9 => h9) (v := .ref (z + 2)) rfl d_Bd_write_23 ?_
    refine lv_aload_n hx hb d_Bd_write_26 rfl (lv_at hl 0 rfl) ?_
    cases hg : g_get S.2.2.1 (x, y, S.2.1) with
    | none =>
      refine x_callP (va_runV (As := [.ref H0.size]) (rest := []) ⟨hx, hb, hml, hown, htb⟩ (c_Fi_findN l q4 q4s qn (g_get_no hg)) (x_cV 1 htb mw_154 mw_3 mw_157 mw_155 mw_156 rfl rfl (by decide +kernel) ⟨Nat.le_of_ble_eq_true rfl, Nat.le_of_ble_eq_true rfl⟩) (x_preV hK hN g1 rfl) rfl rfl hl.1 rfl (lv_room (Nat.le_of_ble_eq_true rfl)) d_Bd_write_27 ⟨Nat.le_of_ble_eq_true rfl, Nat.le_of_ble_eq_true rfl⟩) ?_
      refine W.eq (g2 := F0 m 30 ls [.null]) rfl ?_
      refine lv_ifnonnullN hx hb d_Bd_write_30 ?_
      refine va_forget (fun q hq => by rw [hH]; exact hL q hq) ?_
      exact x_thr hx hb hlt0 (by rw [hml]; exact hl.1.symm) hown (by decide) (by decide) (fun a ha => x_own htb hN hTs a (ow_90 a ha)) (htb _ mw_350) (htb _ mw_17) (htb _ mw_351) (hN.2 (88, "there are 60 files") (List.mem_of_getElem? (i := 2) rfl)) d_Bd_write_33 d_Bd_write_36 d_Bd_write_37 d_Bd_write_39 d_Bd_write_42 hout (Nat.le_of_ble_eq_true rfl) (Nat.le_of_ble_eq_true rfl) (Nat.le_of_ble_eq_true rfl) (Nat.le_of_ble_eq_true rfl) (by rw [hH, k1z]; omega) (fun t cell e1 e2 e3 e4 e5 => ⟨_, cell, rfl, e1, e2, e3, by rw [← hH]; exact ⟨e4, e5⟩⟩) hlocks
    | some f =>
      have hb2 : 200 ≤ S.2.2.2.2.2.1.length := hbad.resolve_right (fun e => by rw [e.2] at hg; cases hg)
      obtain ⟨j, hfi, hff⟩ := g_get_ex hg
      obtain ⟨fa, hfa⟩ := g_ex (as := as) (j := j) (by rw [q4s.1]; exact g_find_lt hfi)
      refine x_callP (va_runV (As := [.ref H0.size]) (rest := []) ⟨hx, hb, hml, hown, htb⟩ (c_Fi_find l q4 q4s qn hfi hfa) (x_cV 1 htb mw_154 mw_3 mw_157 mw_155 mw_156 rfl rfl (by decide +kernel) ⟨Nat.le_of_ble_eq_true rfl, Nat.le_of_ble_eq_true rfl⟩) (x_preV hK hN g1 rfl) rfl rfl hl.1 rfl (lv_room (Nat.le_of_ble_eq_true rfl)) d_Bd_write_27 ⟨Nat.le_of_ble_eq_true rfl, Nat.le_of_ble_eq_true rfl⟩) ?_
      refine W.eq (g2 := F0 m 30 ls [.ref fa]) rfl ?_
      refine lv_ifnonnull (tgt := 43) hx hb d_Bd_write_30 (by decide) ?_
      refine lv_aload_n hx hb d_Bd_write_43 rfl (lv_at hl 1 rfl) ?_
      exact x_leaveT (F := fun q : Nat => H0.size ≤ q) (x_runVT (As := []) (rest := []) ⟨hx, hb, hml, hown, htb⟩ (c_Bd_refuseFullT l hlt0 hd1 hb2) (x_cV 0 htb mw_366 mw_1 mw_369 mw_368 ms_4 rfl rfl (by decide +kernel) ⟨Nat.le_of_ble_eq_true rfl, Nat.le_of_ble_eq_true rfl⟩) (x_preVT hK hN hT q1 rfl) rfl rfl hl.1 rfl (lv_room (Nat.le_of_ble_eq_true rfl)) d_Bd_write_44 ⟨Nat.le_of_ble_eq_true rfl, Nat.le_of_ble_eq_true rfl⟩) hL (fun q hq => by have hq : H1.size ≤ q := hq; omega) hout hlocks (fun H2 q => ⟨by omega, fun q2 hq2 => by rw [q.2 q2 (by omega), k1o q2 hq2]⟩)
set_option maxHeartbeats 4000000 in
set_option maxRecDepth 100000 in
theorem c_Bd_delete (l : Launch) {D : va_G} {A : Nat → ClassId} {H0 : Heap} {a z : Nat} {S : g_S} (hd : g_D D A a z S H0) {x y : Int32} (hok : g_ok x y) {f : g_F} (hg : g_get S.2.2.1 (x, y, S.2.1) = some f) (hnm : f.1 = (x, y, S.2.1)) (hlt : S.2.2.2.2.2.1.length < 200) : Met l y_Bd_delete w_Bd_delete { frames := 6, cells := 2, slots := 5, locals := 132 } (x_Pc D A [.ref a, .int x, .int y] H0) (x_Q none (fun H1 => g_D D A a z (S.1, S.2.1, g_ap S.2.2.1 ((x, y, S.2.1), none), S.2.2.2.1, S.2.2.2.2.1, S.2.2.2.2.2.1 ++ [((x, y, S.2.1), none)], S.2.2.2.2.2.2 + 1) H1 ∧ g_K (g_M a z) H0 H1)) 2 5 (x_fr (g_Mx a z) H0) := by
  refine Met.ofW (cc := prog_1_method_6_code) (maxL := 4) (ret := none) (by decide) rfl ?_
  intro p e s m args below meth c s₁ B hml hv
  obtain ⟨rfl, hH, hK, hN⟩ := hv
  obtain ⟨hx, hb, hr, htb, hown, hlocks⟩ := x_start (wd := Cond.code y_Bd_delete prog_1_method_6_code 4 none) B
  have hl := lv_entry ([.ref a, .int x, .int y]) (n := 4) (Nat.le_of_ble_eq_true rfl)
  rw [lg_entry_eq]
  generalize (lg_sl ([.ref a, .int x, .int y]) ++ List.replicate (4 - (lg_sl ([.ref a, .int x, .int y])).length) Slot.unset).toArray = ls at hl ⊢
  have hl : lv_has ls 4 [(0, .ref a), (1, .int x), (2, .int y)] := hl
  rw [hH]
  obtain ⟨pa, as, bs, cs, ds, h1, h2, h3, ⟨h4, h4s⟩, ⟨h5, h5s⟩, ⟨h6, h6s⟩, ⟨h7, h7s⟩, h8, h9⟩ := id hd
  have hL : ∀ q ∈ ([] : List Loc), x_fr (g_Mx a z) H0 q.base := fun q hq => by cases hq
  refine lv_iload_n hx hb d_Bd_delete_0 rfl (lv_at hl 1 rfl) ?_
  refine lv_iload_n hx hb d_Bd_delete_1 rfl (lv_at hl 2 rfl) ?_
  refine x_callP (va_runS (As := [.int x, .int y]) (rest := []) ⟨hx, hb, hml, hown, htb⟩ (c_Bd_refuse l hok) (x_cS 2 htb mw_330 mw_1 mw_332 mw_331 rfl rfl (by decide +kernel) ⟨Nat.le_of_ble_eq_true rfl, Nat.le_of_ble_eq_true rfl⟩) (x_preS hK hN) rfl rfl hl.1 rfl (lv_room (Nat.le_of_ble_eq_true rfl)) d_Bd_delete_2 ⟨Nat.le_of_ble_eq_true rfl, Nat.le_of_ble_eq_true rfl⟩) ?_
  refine W.eq (g2 := F0 m 5 ls []) rfl ?_
  refine lv_aload_n hx hb d_Bd_delete_5 rfl (lv_at hl 0 rfl) ?_
  refine lv_iload_n hx hb d_Bd_delete_6 rfl (lv_at hl 1 rfl) ?_
  refine lv_iload_n hx hb d_Bd_delete_7 rfl (lv_at hl 2 rfl) ?_
  refine x_callr (F := x_fr (g_Mx a z) H0) (va_runV (As := [.int x, .int y]) (rest := []) ⟨hx, hb, hml, hown, htb⟩ (c_Bd_fileToChange l hd hg) (x_cV 2 htb mw_429 mw_1 mw_432 mw_431 ms_7 rfl rfl (by decide +kernel) ⟨Nat.le_of_ble_eq_true rfl, Nat.le_of_ble_eq_true rfl⟩) (x_preV hK hN h1 rfl) rfl rfl hl.1 rfl (lv_room (Nat.le_of_ble_eq_true rfl)) d_Bd_delete_8 ⟨Nat.le_of_ble_eq_true rfl, Nat.le_of_ble_eq_true rfl⟩) hL (fun q hq => Or.inr hq) (fun fa H1 locs hP hL => ?_)
  obtain ⟨f1, k1z, k1o⟩ := hP
  have hd1 := hd.ext k1z k1o
  have hk1 : g_K (g_M a z) H0 H1 := ⟨k1z, fun q hq _ => k1o q hq⟩
  have q1 := h1.kept (k1o a (by omega))
  obtain ⟨na, ca, f2, f3, f4, f5⟩ := id f1
  refine lv_astore_n (lv' := [(3, .ref fa), (0, .ref a), (1, .int x), (2, .int y)]) hx hb d_Bd_delete_11 rfl hl (by decide) rfl (fun ls hl => ?_)
  refine lv_aload_n hx hb d_Bd_delete_12 rfl (lv_at hl 1 rfl) ?_
  refine x_callP (va_runV (As := []) (rest := []) ⟨hx, hb, hml, hown, htb⟩ (c_Bd_refuseFull l hd1 hlt) (x_cV 0 htb mw_366 mw_1 mw_369 mw_368 ms_4 rfl rfl (by decide +kernel) ⟨Nat.le_of_ble_eq_true rfl, Nat.le_of_ble_eq_true rfl⟩) (x_preV hK hN q1 rfl) rfl rfl hl.1 rfl (lv_room (Nat.le_of_ble_eq_true rfl)) d_Bd_delete_13 ⟨Nat.le_of_ble_eq_true rfl, Nat.le_of_ble_eq_true rfl⟩) ?_
  refine W.eq (g2 := F0 m 16 ls []) rfl ?_
  refine lv_aload_n hx hb d_Bd_delete_16 rfl (lv_at hl 1 rfl) ?_
  refine x_new (ci := 3) (fs := [.null, .null]) (T := T_Op) (N := 2) hx hb htb u_Op t_Op t_Op_ok hown (htb _ mw_375) (htb _ mw_376) (htb _ mw_18) hK rfl df_Op (Nat.le_of_ble_eq_true rfl) (Nat.le_of_ble_eq_true rfl) d_Bd_delete_17 (fun H2 k2 k2z k2o => ?_)
  have f2 := f2.kept (k2o _ f2.lt)
  refine lv_dup hx hb d_Bd_delete_20 rfl ?_
  refine lv_aload_n hx hb d_Bd_delete_21 rfl (lv_at hl 0 rfl) ?_
  refine x_getN (ci := 2) (T := T_Sf) hx hb htb u_Sf hown hK f2 rfl 0 (by decide) (va_Nw.use rfl (hN.1 _ nf_384)) (fun _ h9 => h9) (v := .ref na) rfl d_Bd_delete_22 ?_
  refine lv_null hx hb d_Bd_delete_25 ?_
  refine x_call (F := x_fr (g_Mx a z) H0) (va_runI (As := [.ref na, .null]) (rest := [.ref H1.size, .ref a]) ⟨hx, hb, hml, hown, htb⟩ (c_Op_initN l k2) (x_cI 2 htb mw_393 mw_18 mw_395 mw_394 rfl rfl rfl (by decide +kernel) ⟨Nat.le_of_ble_eq_true rfl, Nat.le_of_ble_eq_true rfl⟩) (x_preS hK hN) rfl rfl hl.1 rfl (lv_room (Nat.le_of_ble_eq_true rfl)) d_Bd_delete_26 ⟨Nat.le_of_ble_eq_true rfl, Nat.le_of_ble_eq_true rfl⟩) hL (fun q hq => Or.inr (by rw [hq]; omega)) (fun H3 locs hP hL => ?_)
  refine W.eq (g2 := F0 m 29 ls [.ref H1.size, .ref a]) rfl ?_
  obtain ⟨k3, hb3⟩ := hP
  have hold1 : ∀ q : Nat, q < H1.size → H3[q]? = H1[q]? := fun q hq => by rw [hb3.2 q (by omega), k2o q hq]
  have hz3 : H1.size ≤ H3.size := by rw [hb3.1]; omega
  have hk13 : g_K (g_M a z) H1 H3 := ⟨hz3, fun q hq _ => hold1 q hq⟩
  have hd3 := hd1.ext hz3 hold1
  have hop : g_op D A (g_Mx a z) H1.size ((x, y, S.2.1), none) H3 := ⟨na, none, k3, hd.new _ k1z, hnm ▸ f4.kept hk13, trivial⟩
  obtain ⟨pa6, as6, bs6, cs6, ds6, s1, -⟩ := id hd3
  refine x_call (F := x_fr (g_Mx a z) H0) (va_runV (As := [.ref H1.size]) (rest := []) ⟨hx, hb, hml, hown, htb⟩ (c_Bd_perform l hd3 hop hlt) (x_cV 1 htb mw_406 mw_1 mw_409 mw_408 ms_5 rfl rfl (by decide +kernel) ⟨Nat.le_of_ble_eq_true rfl, Nat.le_of_ble_eq_true rfl⟩) (x_preV hK hN s1 rfl) rfl rfl hl.1 rfl (lv_room (Nat.le_of_ble_eq_true rfl)) d_Bd_delete_29 ⟨Nat.le_of_ble_eq_true rfl, Nat.le_of_ble_eq_true rfl⟩) hL (fun q hq => hq.elim Or.inl (fun e => Or.inr (by omega))) (fun H7 locs hP hL => ?_)
  refine W.eq (g2 := F0 m 32 ls []) rfl ?_
  obtain ⟨c1, c2, -⟩ := hP
  exact x_vret hx hb hr hlocks ⟨c1, (hk1.trans hk13).trans c2⟩ hL (Nat.le_refl _) (Nat.le_refl _) d_Bd_delete_32
set_option maxHeartbeats 4000000 in
set_option maxRecDepth 100000 in
theorem c_Bd_rename (l : Launch) {D : va_G} {A : Nat → ClassId} {H0 : Heap} {a z : Nat} {S : g_S} (hd : g_D D A a z S H0) {x y x2 y2 : Int32} (hok : g_ok x y) (hok2 : g_ok x2 y2) {f : g_F} (hg : g_get S.2.2.1 (x, y, S.2.1) = some f) (hnm : f.1 = (x, y, S.2.1)) (hlt : S.2.2.2.2.2.1.length < 200) : Met l y_Bd_rename w_Bd_rename { frames := 6, cells := 4, slots := 10, locals := 132 } (x_Pc D A [.ref a, .int x, .int y, .int x2, .int y2] H0) (x_Q none (fun H1 => g_D D A a z (S.1, S.2.1, g_ap S.2.2.1 ((x, y, S.2.1), some ((x2, y2, S.2.1), f.2)), S.2.2.2.1, S.2.2.2.2.1, S.2.2.2.2.2.1 ++ [((x, y, S.2.1), some ((x2, y2, S.2.1), f.2))], S.2.2.2.2.2.2 + 1) H1 ∧ g_K (g_M a z) H0 H1)) 4 10 (x_fr (g_Mx a z) H0) := by
  refine Met.ofW (cc := prog_1_method_5_code) (maxL := 6) (ret := none) (by decide) rfl ?_
  intro p e s m args below meth c s₁ B hml hv
  obtain ⟨rfl, hH, hK, hN⟩ := hv
  obtain ⟨hx, hb, hr, htb, hown, hlocks⟩ := x_start (wd := Cond.code y_Bd_rename prog_1_method_5_code 6 none) B
  have hl := lv_entry ([.ref a, .int x, .int y, .int x2, .int y2]) (n := 6) (Nat.le_of_ble_eq_true rfl)
  rw [lg_entry_eq]
  generalize (lg_sl ([.ref a, .int x, .int y, .int x2, .int y2]) ++ List.replicate (6 - (lg_sl ([.ref a, .int x, .int y, .int x2, .int y2])).length) Slot.unset).toArray = ls at hl ⊢
  have hl : lv_has ls 6 [(0, .ref a), (1, .int x), (2, .int y), (3, .int x2), (4, .int y2)] := hl
  rw [hH]
  obtain ⟨pa, as, bs, cs, ds, h1, h2, h3, ⟨h4, h4s⟩, ⟨h5, h5s⟩, ⟨h6, h6s⟩, ⟨h7, h7s⟩, h8, h9⟩ := id hd
  have hL : ∀ q ∈ ([] : List Loc), x_fr (g_Mx a z) H0 q.base := fun q hq => by cases hq
  refine lv_iload_n hx hb d_Bd_rename_0 rfl (lv_at hl 1 rfl) ?_
  refine lv_iload_n hx hb d_Bd_rename_1 rfl (lv_at hl 2 rfl) ?_
  refine x_callP (va_runS (As := [.int x, .int y]) (rest := []) ⟨hx, hb, hml, hown, htb⟩ (c_Bd_refuse l hok) (x_cS 2 htb mw_330 mw_1 mw_332 mw_331 rfl rfl (by decide +kernel) ⟨Nat.le_of_ble_eq_true rfl, Nat.le_of_ble_eq_true rfl⟩) (x_preS hK hN) rfl rfl hl.1 rfl (lv_room (Nat.le_of_ble_eq_true rfl)) d_Bd_rename_2 ⟨Nat.le_of_ble_eq_true rfl, Nat.le_of_ble_eq_true rfl⟩) ?_
  refine W.eq (g2 := F0 m 5 ls []) rfl ?_
  refine lv_iload_n hx hb d_Bd_rename_5 rfl (lv_at hl 3 rfl) ?_
  refine lv_iload hx hb d_Bd_rename_6 (lv_at hl 4 rfl) ?_
  refine x_callP (va_runS (As := [.int x2, .int y2]) (rest := []) ⟨hx, hb, hml, hown, htb⟩ (c_Bd_refuse l hok2) (x_cS 2 htb mw_330 mw_1 mw_332 mw_331 rfl rfl (by decide +kernel) ⟨Nat.le_of_ble_eq_true rfl, Nat.le_of_ble_eq_true rfl⟩) (x_preS hK hN) rfl rfl hl.1 rfl (lv_room (Nat.le_of_ble_eq_true rfl)) d_Bd_rename_8 ⟨Nat.le_of_ble_eq_true rfl, Nat.le_of_ble_eq_true rfl⟩) ?_
  refine W.eq (g2 := F0 m 11 ls []) rfl ?_
  refine lv_aload_n hx hb d_Bd_rename_11 rfl (lv_at hl 0 rfl) ?_
  refine lv_iload_n hx hb d_Bd_rename_12 rfl (lv_at hl 1 rfl) ?_
  refine lv_iload_n hx hb d_Bd_rename_13 rfl (lv_at hl 2 rfl) ?_
  refine x_callr (F := x_fr (g_Mx a z) H0) (va_runV (As := [.int x, .int y]) (rest := []) ⟨hx, hb, hml, hown, htb⟩ (c_Bd_fileToChange l hd hg) (x_cV 2 htb mw_429 mw_1 mw_432 mw_431 ms_7 rfl rfl (by decide +kernel) ⟨Nat.le_of_ble_eq_true rfl, Nat.le_of_ble_eq_true rfl⟩) (x_preV hK hN h1 rfl) rfl rfl hl.1 rfl (lv_room (Nat.le_of_ble_eq_true rfl)) d_Bd_rename_14 ⟨Nat.le_of_ble_eq_true rfl, Nat.le_of_ble_eq_true rfl⟩) hL (fun q hq => Or.inr hq) (fun fa H1 locs hP hL => ?_)
  obtain ⟨f1, k1z, k1o⟩ := hP
  have hd1 := hd.ext k1z k1o
  have hk1 : g_K (g_M a z) H0 H1 := ⟨k1z, fun q hq _ => k1o q hq⟩
  have q1 := h1.kept (k1o a (by omega))
  obtain ⟨na, ca, f2, f3, f4, f5⟩ := id f1
  refine lv_astore (lv' := [(5, .ref fa), (0, .ref a), (1, .int x), (2, .int y), (3, .int x2), (4, .int y2)]) hx hb d_Bd_rename_17 hl (by decide) rfl (fun ls hl => ?_)
  refine lv_aload_n hx hb d_Bd_rename_19 rfl (lv_at hl 1 rfl) ?_
  refine x_callP (va_runV (As := []) (rest := []) ⟨hx, hb, hml, hown, htb⟩ (c_Bd_refuseFull l hd1 hlt) (x_cV 0 htb mw_366 mw_1 mw_369 mw_368 ms_4 rfl rfl (by decide +kernel) ⟨Nat.le_of_ble_eq_true rfl, Nat.le_of_ble_eq_true rfl⟩) (x_preV hK hN q1 rfl) rfl rfl hl.1 rfl (lv_room (Nat.le_of_ble_eq_true rfl)) d_Bd_rename_20 ⟨Nat.le_of_ble_eq_true rfl, Nat.le_of_ble_eq_true rfl⟩) ?_
  refine W.eq (g2 := F0 m 23 ls []) rfl ?_
  refine lv_aload_n hx hb d_Bd_rename_23 rfl (lv_at hl 1 rfl) ?_
  refine x_new (ci := 3) (fs := [.null, .null]) (T := T_Op) (N := 2) hx hb htb u_Op t_Op t_Op_ok hown (htb _ mw_375) (htb _ mw_376) (htb _ mw_18) hK rfl df_Op (Nat.le_of_ble_eq_true rfl) (Nat.le_of_ble_eq_true rfl) d_Bd_rename_24 (fun H2 k2 k2z k2o => ?_)
  have f2 := f2.kept (k2o _ f2.lt)
  refine lv_dup hx hb d_Bd_rename_27 rfl ?_
  refine lv_aload hx hb d_Bd_rename_28 (lv_at hl 0 rfl) ?_
  refine x_getN (ci := 2) (T := T_Sf) hx hb htb u_Sf hown hK f2 rfl 0 (by decide) (va_Nw.use rfl (hN.1 _ nf_384)) (fun _ h9 => h9) (v := .ref na) rfl d_Bd_rename_30 ?_
  refine x_new (ci := 2) (fs := [.null, .null]) (T := T_Sf) (N := 2) hx hb htb u_Sf t_Sf t_Sf_ok hown (htb _ mw_377) (htb _ mw_378) (htb _ mw_19) hK rfl df_Sf (Nat.le_of_ble_eq_true rfl) (Nat.le_of_ble_eq_true rfl) d_Bd_rename_33 (fun H3 k3 k3z k3o => ?_)
  have f2 := f2.kept (k3o _ f2.lt)
  have q1 := (q1.kept (k2o _ (by omega))).kept (k3o _ (by omega))
  refine lv_dup hx hb d_Bd_rename_36 rfl ?_
  refine lv_aload_n hx hb d_Bd_rename_37 rfl (lv_at hl 1 rfl) ?_
  refine lv_iload_n hx hb d_Bd_rename_38 rfl (lv_at hl 4 rfl) ?_
  refine lv_iload hx hb d_Bd_rename_39 (lv_at hl 5 rfl) ?_
  refine x_call (F := x_fr (g_Mx a z) H0) (va_runV (As := [.int x2, .int y2]) (rest := [.ref H2.size, .ref H2.size, .ref na, .ref H1.size, .ref H1.size, .ref a]) ⟨hx, hb, hml, hown, htb⟩ (c_Bd_name2 l q1 x2 y2) (x_cV 2 htb mw_131 mw_1 mw_134 mw_133 ms_0 rfl rfl (by decide +kernel) ⟨Nat.le_of_ble_eq_true rfl, Nat.le_of_ble_eq_true rfl⟩) (x_preV hK hN q1 rfl) rfl rfl hl.1 rfl (lv_room (Nat.le_of_ble_eq_true rfl)) d_Bd_rename_41 ⟨Nat.le_of_ble_eq_true rfl, Nat.le_of_ble_eq_true rfl⟩) hL (fun q hq => Or.inr (by have hq : H3.size ≤ q := hq; omega)) (fun H4 locs hP hL => ?_)
  refine W.eq (g2 := F0 m 44 ls [.ref H3.size, .ref H2.size, .ref H2.size, .ref na, .ref H1.size, .ref H1.size, .ref a]) rfl ?_
  obtain ⟨k4, k4z, k4o⟩ := hP
  have f2 := f2.kept (k4o _ f2.lt)
  have k3 := k3.kept (k4o _ (by omega))
  have k2 := (k2.kept (k3o _ (by omega))).kept (k4o _ (by omega))
  refine lv_aload hx hb d_Bd_rename_44 (lv_at hl 0 rfl) ?_
  refine x_getN (ci := 2) (T := T_Sf) hx hb htb u_Sf hown hK f2 rfl 1 (by decide) (va_Nw.use rfl (hN.1 _ nf_387)) (fun _ h9 => h9) (v := .ref ca) rfl d_Bd_rename_46 ?_
  refine x_call (F := x_fr (g_Mx a z) H0) (va_runI (As := [.ref H3.size, .ref ca]) (rest := [.ref H2.size, .ref na, .ref H1.size, .ref H1.size, .ref a]) ⟨hx, hb, hml, hown, htb⟩ (c_Sf_init l k3) (x_cI 2 htb mw_379 mw_19 mw_381 mw_380 rfl rfl rfl (by decide +kernel) ⟨Nat.le_of_ble_eq_true rfl, Nat.le_of_ble_eq_true rfl⟩) (x_preS hK hN) rfl rfl hl.1 rfl (lv_room (Nat.le_of_ble_eq_true rfl)) d_Bd_rename_49 ⟨Nat.le_of_ble_eq_true rfl, Nat.le_of_ble_eq_true rfl⟩) hL (fun q hq => Or.inr (by rw [hq]; omega)) (fun H5 locs hP hL => ?_)
  refine W.eq (g2 := F0 m 52 ls [.ref H2.size, .ref na, .ref H1.size, .ref H1.size, .ref a]) rfl ?_
  obtain ⟨k5, hb5⟩ := hP
  have k2 := hb5.at k2 (by omega)
  refine x_call (F := x_fr (g_Mx a z) H0) (va_runI (As := [.ref na, .ref H2.size]) (rest := [.ref H1.size, .ref a]) ⟨hx, hb, hml, hown, htb⟩ (c_Op_init l k2) (x_cI 2 htb mw_393 mw_18 mw_395 mw_394 rfl rfl rfl (by decide +kernel) ⟨Nat.le_of_ble_eq_true rfl, Nat.le_of_ble_eq_true rfl⟩) (x_preS hK hN) rfl rfl hl.1 rfl (lv_room (Nat.le_of_ble_eq_true rfl)) d_Bd_rename_52 ⟨Nat.le_of_ble_eq_true rfl, Nat.le_of_ble_eq_true rfl⟩) hL (fun q hq => Or.inr (by rw [hq]; omega)) (fun H6 locs hP hL => ?_)
  refine W.eq (g2 := F0 m 55 ls [.ref H1.size, .ref a]) rfl ?_
  obtain ⟨k6, hb6⟩ := hP
  have hz6 : H6.size = H4.size := by rw [hb6.1, hb5.1]
  have hold1 : ∀ q : Nat, q < H1.size → H6[q]? = H1[q]? := fun q hq => by rw [hb6.2 q (by omega), hb5.2 q (by omega), k4o q (by omega), k3o q (by omega), k2o q hq]
  have hz3 : H1.size ≤ H6.size := by omega
  have hk16 : g_K (g_M a z) H1 H6 := ⟨hz3, fun q hq _ => hold1 q hq⟩
  have hd6 := hd1.ext hz3 hold1
  have k4 := hb6.at (hb5.at k4 (by omega)) (by omega)
  have hsf : g_sf D A (g_Mx a z) H2.size ((x2, y2, S.2.1), f.2) H6 := ⟨H3.size, ca, hb6.at k5 (by omega), hd.new _ (by omega), ⟨pa, k4, hd.new _ (by omega), h3.kept (hk1.trans hk16)⟩, f5.kept hk16⟩
  have hop : g_op D A (g_Mx a z) H1.size ((x, y, S.2.1), some ((x2, y2, S.2.1), f.2)) H6 := ⟨na, some H2.size, k6, hd.new _ k1z, hnm ▸ f4.kept hk16, hsf⟩
  obtain ⟨pa6, as6, bs6, cs6, ds6, s1, -⟩ := id hd6
  refine x_call (F := x_fr (g_Mx a z) H0) (va_runV (As := [.ref H1.size]) (rest := []) ⟨hx, hb, hml, hown, htb⟩ (c_Bd_perform l hd6 hop hlt) (x_cV 1 htb mw_406 mw_1 mw_409 mw_408 ms_5 rfl rfl (by decide +kernel) ⟨Nat.le_of_ble_eq_true rfl, Nat.le_of_ble_eq_true rfl⟩) (x_preV hK hN s1 rfl) rfl rfl hl.1 rfl (lv_room (Nat.le_of_ble_eq_true rfl)) d_Bd_rename_55 ⟨Nat.le_of_ble_eq_true rfl, Nat.le_of_ble_eq_true rfl⟩) hL (fun q hq => hq.elim Or.inl (fun e => Or.inr (by omega))) (fun H7 locs hP hL => ?_)
  refine W.eq (g2 := F0 m 58 ls []) rfl ?_
  obtain ⟨c1, c2, -⟩ := hP
  exact x_vret hx hb hr hlocks ⟨c1, (hk1.trans hk16).trans c2⟩ hL (Nat.le_refl _) (Nat.le_refl _) d_Bd_rename_58
set_option maxHeartbeats 4000000 in
set_option maxRecDepth 100000 in
theorem c_Bd_deleteT1 (l : Launch) (hlt0 : l.stackTraces = false) {D : va_G} {A : Nat → ClassId} {H0 : Heap} {a z : Nat} {S : g_S} (hd : g_D D A a z S H0) {x y : Int32} (hok : ¬ g_ok x y) : x_MetT l y_Bd_delete w_Bd_delete { frames := 7, cells := 1, slots := 6, locals := 111 } (x_PcT D A (g_Mx a z) [.ref a, .int x, .int y] H0) (x_QT "java/lang/IndexOutOfBoundsException" (fun H1 => H0.size ≤ H1.size ∧ ∀ q : Nat, q < H0.size → H1[q]? = H0[q]?)) 1 6 (fun q => H0.size ≤ q) := by
  refine x_ofWT (cc := prog_1_method_6_code) (maxL := 4) (ret := none) (by decide) rfl ?_
  intro p e s m args below meth c s₁ B hml hv
  obtain ⟨rfl, hH, hK, hN, hT⟩ := hv
  obtain ⟨hx, hb, hr, htb, hown, hlocks⟩ := x_start (wd := Cond.code y_Bd_delete prog_1_method_6_code 4 none) B
  have hout := x_nohand B
  have hTs : x_T (g_Mx a z) s s.heap := by rw [hH]; exact hT
  have hl := lv_entry ([.ref a, .int x, .int y]) (n := 4) (Nat.le_of_ble_eq_true rfl)
  rw [lg_entry_eq]
  generalize (lg_sl ([.ref a, .int x, .int y]) ++ List.replicate (4 - (lg_sl ([.ref a, .int x, .int y])).length) Slot.unset).toArray = ls at hl ⊢
  have hl : lv_has ls 4 [(0, .ref a), (1, .int x), (2, .int y)] := hl
  rw [hH]
  have hL : ∀ q ∈ ([] : List Loc), (fun q : Nat => H0.size ≤ q) q.base := fun q hq => by cases hq
  refine lv_iload_n hx hb d_Bd_delete_0 rfl (lv_at hl 1 rfl) ?_
  refine lv_iload_n hx hb d_Bd_delete_1 rfl (lv_at hl 2 rfl) ?_
  exact x_leaveT (F := fun q : Nat => H0.size ≤ q) (x_runST (As := [.int x, .int y]) (rest := []) ⟨hx, hb, hml, hown, htb⟩ (c_Bd_refuseT l hlt0 hok) (x_cS 2 htb mw_330 mw_1 mw_332 mw_331 rfl rfl (by decide +kernel) ⟨Nat.le_of_ble_eq_true rfl, Nat.le_of_ble_eq_true rfl⟩) (x_preST hK hN hT) rfl rfl hl.1 rfl (lv_room (Nat.le_of_ble_eq_true rfl)) d_Bd_delete_2 ⟨Nat.le_of_ble_eq_true rfl, Nat.le_of_ble_eq_true rfl⟩) hL (fun q hq => hq) hout hlocks (fun H1 q => q)
set_option maxHeartbeats 4000000 in
set_option maxRecDepth 100000 in
theorem c_Bd_deleteT2 (l : Launch) (hlt0 : l.stackTraces = false) {D : va_G} {A : Nat → ClassId} {H0 : Heap} {a z : Nat} {S : g_S} (hd : g_D D A a z S H0) {x y : Int32} (hok : g_ok x y) (hg : g_get S.2.2.1 (x, y, S.2.1) = none) : x_MetT l y_Bd_delete w_Bd_delete { frames := 7, cells := 2, slots := 9, locals := 113 } (x_PcT D A (g_Mx a z) [.ref a, .int x, .int y] H0) (x_QT "java/lang/IllegalArgumentException" (fun H1 => H0.size ≤ H1.size ∧ ∀ q : Nat, q < H0.size → H1[q]? = H0[q]?)) 2 9 (fun q => H0.size ≤ q) := by
  refine x_ofWT (cc := prog_1_method_6_code) (maxL := 4) (ret := none) (by decide) rfl ?_
  intro p e s m args below meth c s₁ B hml hv
  obtain ⟨rfl, hH, hK, hN, hT⟩ := hv
  obtain ⟨hx, hb, hr, htb, hown, hlocks⟩ := x_start (wd := Cond.code y_Bd_delete prog_1_method_6_code 4 none) B
  have hout := x_nohand B
  have hTs : x_T (g_Mx a z) s s.heap := by rw [hH]; exact hT
  have hl := lv_entry ([.ref a, .int x, .int y]) (n := 4) (Nat.le_of_ble_eq_true rfl)
  rw [lg_entry_eq]
  generalize (lg_sl ([.ref a, .int x, .int y]) ++ List.replicate (4 - (lg_sl ([.ref a, .int x, .int y])).length) Slot.unset).toArray = ls at hl ⊢
  have hl : lv_has ls 4 [(0, .ref a), (1, .int x), (2, .int y)] := hl
  rw [hH]
  have hL : ∀ q ∈ ([] : List Loc), (fun q : Nat => H0.size ≤ q) q.base := fun q hq => by cases hq
  obtain ⟨pa, as, bs, cs, ds, h1, h2, h3, ⟨h4, h4s⟩, ⟨h5, h5s⟩, ⟨h6, h6s⟩, ⟨h7, h7s⟩, h8, h9⟩ := id hd
  refine lv_iload_n hx hb d_Bd_delete_0 rfl (lv_at hl 1 rfl) ?_
  refine lv_iload_n hx hb d_Bd_delete_1 rfl (lv_at hl 2 rfl) ?_
  refine x_callP (va_runS (As := [.int x, .int y]) (rest := []) ⟨hx, hb, hml, hown, htb⟩ (c_Bd_refuse l hok) (x_cS 2 htb mw_330 mw_1 mw_332 mw_331 rfl rfl (by decide +kernel) ⟨Nat.le_of_ble_eq_true rfl, Nat.le_of_ble_eq_true rfl⟩) (x_preS hK hN) rfl rfl hl.1 rfl (lv_room (Nat.le_of_ble_eq_true rfl)) d_Bd_delete_2 ⟨Nat.le_of_ble_eq_true rfl, Nat.le_of_ble_eq_true rfl⟩) ?_
  refine W.eq (g2 := F0 m 5 ls []) rfl ?_
  refine lv_aload_n hx hb d_Bd_delete_5 rfl (lv_at hl 0 rfl) ?_
  refine lv_iload_n hx hb d_Bd_delete_6 rfl (lv_at hl 1 rfl) ?_
  refine lv_iload_n hx hb d_Bd_delete_7 rfl (lv_at hl 2 rfl) ?_
  exact x_leaveT (F := fun q : Nat => H0.size ≤ q) (x_runVT (As := [.int x, .int y]) (rest := []) ⟨hx, hb, hml, hown, htb⟩ (c_Bd_fileToChangeT l hlt0 hd hg) (x_cV 2 htb mw_429 mw_1 mw_432 mw_431 ms_7 rfl rfl (by decide +kernel) ⟨Nat.le_of_ble_eq_true rfl, Nat.le_of_ble_eq_true rfl⟩) (x_preVT hK hN hT h1 rfl) rfl rfl hl.1 rfl (lv_room (Nat.le_of_ble_eq_true rfl)) d_Bd_delete_8 ⟨Nat.le_of_ble_eq_true rfl, Nat.le_of_ble_eq_true rfl⟩) hL (fun q hq => hq) hout hlocks (fun H1 q => q)
set_option maxHeartbeats 4000000 in
set_option maxRecDepth 100000 in
theorem c_Bd_deleteT3 (l : Launch) (hlt0 : l.stackTraces = false) {D : va_G} {A : Nat → ClassId} {H0 : Heap} {a z : Nat} {S : g_S} (hd : g_D D A a z S H0) {x y : Int32} (hok : g_ok x y) {f : g_F} (hg : g_get S.2.2.1 (x, y, S.2.1) = some f) (hge : 200 ≤ S.2.2.2.2.2.1.length) : x_MetT l y_Bd_delete w_Bd_delete { frames := 7, cells := 2, slots := 9, locals := 111 } (x_PcT D A (g_Mx a z) [.ref a, .int x, .int y] H0) (x_QT "java/lang/IllegalStateException" (fun H1 => H0.size ≤ H1.size ∧ ∀ q : Nat, q < H0.size → H1[q]? = H0[q]?)) 2 9 (fun q => H0.size ≤ q) := by
  refine x_ofWT (cc := prog_1_method_6_code) (maxL := 4) (ret := none) (by decide) rfl ?_
  intro p e s m args below meth c s₁ B hml hv
  obtain ⟨rfl, hH, hK, hN, hT⟩ := hv
  obtain ⟨hx, hb, hr, htb, hown, hlocks⟩ := x_start (wd := Cond.code y_Bd_delete prog_1_method_6_code 4 none) B
  have hout := x_nohand B
  have hTs : x_T (g_Mx a z) s s.heap := by rw [hH]; exact hT
  have hl := lv_entry ([.ref a, .int x, .int y]) (n := 4) (Nat.le_of_ble_eq_true rfl)
  rw [lg_entry_eq]
  generalize (lg_sl ([.ref a, .int x, .int y]) ++ List.replicate (4 - (lg_sl ([.ref a, .int x, .int y])).length) Slot.unset).toArray = ls at hl ⊢
  have hl : lv_has ls 4 [(0, .ref a), (1, .int x), (2, .int y)] := hl
  rw [hH]
  have hL : ∀ q ∈ ([] : List Loc), (fun q : Nat => H0.size ≤ q) q.base := fun q hq => by cases hq
  obtain ⟨pa, as, bs, cs, ds, h1, h2, h3, ⟨h4, h4s⟩, ⟨h5, h5s⟩, ⟨h6, h6s⟩, ⟨h7, h7s⟩, h8, h9⟩ := id hd
  refine lv_iload_n hx hb d_Bd_delete_0 rfl (lv_at hl 1 rfl) ?_
  refine lv_iload_n hx hb d_Bd_delete_1 rfl (lv_at hl 2 rfl) ?_
  refine x_callP (va_runS (As := [.int x, .int y]) (rest := []) ⟨hx, hb, hml, hown, htb⟩ (c_Bd_refuse l hok) (x_cS 2 htb mw_330 mw_1 mw_332 mw_331 rfl rfl (by decide +kernel) ⟨Nat.le_of_ble_eq_true rfl, Nat.le_of_ble_eq_true rfl⟩) (x_preS hK hN) rfl rfl hl.1 rfl (lv_room (Nat.le_of_ble_eq_true rfl)) d_Bd_delete_2 ⟨Nat.le_of_ble_eq_true rfl, Nat.le_of_ble_eq_true rfl⟩) ?_
  refine W.eq (g2 := F0 m 5 ls []) rfl ?_
  refine lv_aload_n hx hb d_Bd_delete_5 rfl (lv_at hl 0 rfl) ?_
  refine lv_iload_n hx hb d_Bd_delete_6 rfl (lv_at hl 1 rfl) ?_
  refine lv_iload_n hx hb d_Bd_delete_7 rfl (lv_at hl 2 rfl) ?_
  refine x_callr (F := fun q : Nat => H0.size ≤ q) (va_runV (As := [.int x, .int y]) (rest := []) ⟨hx, hb, hml, hown, htb⟩ (c_Bd_fileToChange l hd hg) (x_cV 2 htb mw_429 mw_1 mw_432 mw_431 ms_7 rfl rfl (by decide +kernel) ⟨Nat.le_of_ble_eq_true rfl, Nat.le_of_ble_eq_true rfl⟩) (x_preV hK hN h1 rfl) rfl rfl hl.1 rfl (lv_room (Nat.le_of_ble_eq_true rfl)) d_Bd_delete_8 ⟨Nat.le_of_ble_eq_true rfl, Nat.le_of_ble_eq_true rfl⟩) hL (fun q hq => hq) (fun fa H1 locs hP hL => ?_)
  obtain ⟨f1, k1z, k1o⟩ := hP
  have hd1 := hd.ext k1z k1o
  have hk1 : g_K (g_M a z) H0 H1 := ⟨k1z, fun q hq _ => k1o q hq⟩
  have q1 := h1.kept (k1o a (by omega))
  obtain ⟨na, ca, f2, f3, f4, f5⟩ := id f1
  have hT := hT.kept hk1
  refine lv_astore_n (lv' := [(3, .ref fa), (0, .ref a), (1, .int x), (2, .int y)]) hx hb d_Bd_delete_11 rfl hl (by decide) rfl (fun ls hl => ?_)
  refine lv_aload_n hx hb d_Bd_delete_12 rfl (lv_at hl 1 rfl) ?_
  exact x_leaveT (F := fun q : Nat => H0.size ≤ q) (x_runVT (As := []) (rest := []) ⟨hx, hb, hml, hown, htb⟩ (c_Bd_refuseFullT l hlt0 hd1 hge) (x_cV 0 htb mw_366 mw_1 mw_369 mw_368 ms_4 rfl rfl (by decide +kernel) ⟨Nat.le_of_ble_eq_true rfl, Nat.le_of_ble_eq_true rfl⟩) (x_preVT hK hN hT q1 rfl) rfl rfl hl.1 rfl (lv_room (Nat.le_of_ble_eq_true rfl)) d_Bd_delete_13 ⟨Nat.le_of_ble_eq_true rfl, Nat.le_of_ble_eq_true rfl⟩) hL (fun q hq => by have hq : H1.size ≤ q := hq; omega) hout hlocks (fun H2 q => ⟨by omega, fun q2 hq2 => by rw [q.2 q2 (by omega), k1o q2 hq2]⟩)
set_option maxHeartbeats 4000000 in
set_option maxRecDepth 100000 in
theorem c_Bd_renameT1 (l : Launch) (hlt0 : l.stackTraces = false) {D : va_G} {A : Nat → ClassId} {H0 : Heap} {a z : Nat} {S : g_S} (hd : g_D D A a z S H0) {x y x2 y2 : Int32} (hok : ¬ (g_ok x y ∧ g_ok x2 y2)) : x_MetT l y_Bd_rename w_Bd_rename { frames := 7, cells := 1, slots := 6, locals := 111 } (x_PcT D A (g_Mx a z) [.ref a, .int x, .int y, .int x2, .int y2] H0) (x_QT "java/lang/IndexOutOfBoundsException" (fun H1 => H0.size ≤ H1.size ∧ ∀ q : Nat, q < H0.size → H1[q]? = H0[q]?)) 1 6 (fun q => H0.size ≤ q) := by
  refine x_ofWT (cc := prog_1_method_5_code) (maxL := 6) (ret := none) (by decide) rfl ?_
  intro p e s m args below meth c s₁ B hml hv
  obtain ⟨rfl, hH, hK, hN, hT⟩ := hv
  obtain ⟨hx, hb, hr, htb, hown, hlocks⟩ := x_start (wd := Cond.code y_Bd_rename prog_1_method_5_code 6 none) B
  have hout := x_nohand B
  have hTs : x_T (g_Mx a z) s s.heap := by rw [hH]; exact hT
  have hl := lv_entry ([.ref a, .int x, .int y, .int x2, .int y2]) (n := 6) (Nat.le_of_ble_eq_true rfl)
  rw [lg_entry_eq]
  generalize (lg_sl ([.ref a, .int x, .int y, .int x2, .int y2]) ++ List.replicate (6 - (lg_sl ([.ref a, .int x, .int y, .int x2, .int y2])).length) Slot.unset).toArray = ls at hl ⊢
  have hl : lv_has ls 6 [(0, .ref a), (1, .int x), (2, .int y), (3, .int x2), (4, .int y2)] := hl
  rw [hH]
  have hL : ∀ q ∈ ([] : List Loc), (fun q : Nat => H0.size ≤ q) q.base := fun q hq => by cases hq
  refine lv_iload_n hx hb d_Bd_rename_0 rfl (lv_at hl 1 rfl) ?_
  refine lv_iload_n hx hb d_Bd_rename_1 rfl (lv_at hl 2 rfl) ?_
  by_cases h1 : g_ok x y
  · refine x_callP (va_runS (As := [.int x, .int y]) (rest := []) ⟨hx, hb, hml, hown, htb⟩ (c_Bd_refuse l h1) (x_cS 2 htb mw_330 mw_1 mw_332 mw_331 rfl rfl (by decide +kernel) ⟨Nat.le_of_ble_eq_true rfl, Nat.le_of_ble_eq_true rfl⟩) (x_preS hK hN) rfl rfl hl.1 rfl (lv_room (Nat.le_of_ble_eq_true rfl)) d_Bd_rename_2 ⟨Nat.le_of_ble_eq_true rfl, Nat.le_of_ble_eq_true rfl⟩) ?_
    refine W.eq (g2 := F0 m 5 ls []) rfl ?_
    refine lv_iload_n hx hb d_Bd_rename_5 rfl (lv_at hl 3 rfl) ?_
    refine lv_iload hx hb d_Bd_rename_6 (lv_at hl 4 rfl) ?_
    exact x_leaveT (F := fun q : Nat => H0.size ≤ q) (x_runST (As := [.int x2, .int y2]) (rest := []) ⟨hx, hb, hml, hown, htb⟩ (c_Bd_refuseT l hlt0 (fun w => hok ⟨h1, w⟩)) (x_cS 2 htb mw_330 mw_1 mw_332 mw_331 rfl rfl (by decide +kernel) ⟨Nat.le_of_ble_eq_true rfl, Nat.le_of_ble_eq_true rfl⟩) (x_preST hK hN hT) rfl rfl hl.1 rfl (lv_room (Nat.le_of_ble_eq_true rfl)) d_Bd_rename_8 ⟨Nat.le_of_ble_eq_true rfl, Nat.le_of_ble_eq_true rfl⟩) hL (fun q hq => hq) hout hlocks (fun H1 q => q)
  · exact x_leaveT (F := fun q : Nat => H0.size ≤ q) (x_runST (As := [.int x, .int y]) (rest := []) ⟨hx, hb, hml, hown, htb⟩ (c_Bd_refuseT l hlt0 h1) (x_cS 2 htb mw_330 mw_1 mw_332 mw_331 rfl rfl (by decide +kernel) ⟨Nat.le_of_ble_eq_true rfl, Nat.le_of_ble_eq_true rfl⟩) (x_preST hK hN hT) rfl rfl hl.1 rfl (lv_room (Nat.le_of_ble_eq_true rfl)) d_Bd_rename_2 ⟨Nat.le_of_ble_eq_true rfl, Nat.le_of_ble_eq_true rfl⟩) hL (fun q hq => hq) hout hlocks (fun H1 q => q)
set_option maxHeartbeats 4000000 in
set_option maxRecDepth 100000 in
theorem c_Bd_renameT2 (l : Launch) (hlt0 : l.stackTraces = false) {D : va_G} {A : Nat → ClassId} {H0 : Heap} {a z : Nat} {S : g_S} (hd : g_D D A a z S H0) {x y x2 y2 : Int32} (hok : g_ok x y) (hok2 : g_ok x2 y2) (hg : g_get S.2.2.1 (x, y, S.2.1) = none) : x_MetT l y_Bd_rename w_Bd_rename { frames := 7, cells := 2, slots := 9, locals := 113 } (x_PcT D A (g_Mx a z) [.ref a, .int x, .int y, .int x2, .int y2] H0) (x_QT "java/lang/IllegalArgumentException" (fun H1 => H0.size ≤ H1.size ∧ ∀ q : Nat, q < H0.size → H1[q]? = H0[q]?)) 2 9 (fun q => H0.size ≤ q) := by
  refine x_ofWT (cc := prog_1_method_5_code) (maxL := 6) (ret := none) (by decide) rfl ?_
  intro p e s m args below meth c s₁ B hml hv
  obtain ⟨rfl, hH, hK, hN, hT⟩ := hv
  obtain ⟨hx, hb, hr, htb, hown, hlocks⟩ := x_start (wd := Cond.code y_Bd_rename prog_1_method_5_code 6 none) B
  have hout := x_nohand B
  have hTs : x_T (g_Mx a z) s s.heap := by rw [hH]; exact hT
  have hl := lv_entry ([.ref a, .int x, .int y, .int x2, .int y2]) (n := 6) (Nat.le_of_ble_eq_true rfl)
  rw [lg_entry_eq]
  generalize (lg_sl ([.ref a, .int x, .int y, .int x2, .int y2]) ++ List.replicate (6 - (lg_sl ([.ref a, .int x, .int y, .int x2, .int y2])).length) Slot.unset).toArray = ls at hl ⊢
  have hl : lv_has ls 6 [(0, .ref a), (1, .int x), (2, .int y), (3, .int x2), (4, .int y2)] := hl
  rw [hH]
  have hL : ∀ q ∈ ([] : List Loc), (fun q : Nat => H0.size ≤ q) q.base := fun q hq => by cases hq
  obtain ⟨pa, as, bs, cs, ds, h1, h2, h3, ⟨h4, h4s⟩, ⟨h5, h5s⟩, ⟨h6, h6s⟩, ⟨h7, h7s⟩, h8, h9⟩ := id hd
  refine lv_iload_n hx hb d_Bd_rename_0 rfl (lv_at hl 1 rfl) ?_
  refine lv_iload_n hx hb d_Bd_rename_1 rfl (lv_at hl 2 rfl) ?_
  refine x_callP (va_runS (As := [.int x, .int y]) (rest := []) ⟨hx, hb, hml, hown, htb⟩ (c_Bd_refuse l hok) (x_cS 2 htb mw_330 mw_1 mw_332 mw_331 rfl rfl (by decide +kernel) ⟨Nat.le_of_ble_eq_true rfl, Nat.le_of_ble_eq_true rfl⟩) (x_preS hK hN) rfl rfl hl.1 rfl (lv_room (Nat.le_of_ble_eq_true rfl)) d_Bd_rename_2 ⟨Nat.le_of_ble_eq_true rfl, Nat.le_of_ble_eq_true rfl⟩) ?_
  refine W.eq (g2 := F0 m 5 ls []) rfl ?_
  refine lv_iload_n hx hb d_Bd_rename_5 rfl (lv_at hl 3 rfl) ?_
  refine lv_iload hx hb d_Bd_rename_6 (lv_at hl 4 rfl) ?_
  refine x_callP (va_runS (As := [.int x2, .int y2]) (rest := []) ⟨hx, hb, hml, hown, htb⟩ (c_Bd_refuse l hok2) (x_cS 2 htb mw_330 mw_1 mw_332 mw_331 rfl rfl (by decide +kernel) ⟨Nat.le_of_ble_eq_true rfl, Nat.le_of_ble_eq_true rfl⟩) (x_preS hK hN) rfl rfl hl.1 rfl (lv_room (Nat.le_of_ble_eq_true rfl)) d_Bd_rename_8 ⟨Nat.le_of_ble_eq_true rfl, Nat.le_of_ble_eq_true rfl⟩) ?_
  refine W.eq (g2 := F0 m 11 ls []) rfl ?_
  refine lv_aload_n hx hb d_Bd_rename_11 rfl (lv_at hl 0 rfl) ?_
  refine lv_iload_n hx hb d_Bd_rename_12 rfl (lv_at hl 1 rfl) ?_
  refine lv_iload_n hx hb d_Bd_rename_13 rfl (lv_at hl 2 rfl) ?_
  exact x_leaveT (F := fun q : Nat => H0.size ≤ q) (x_runVT (As := [.int x, .int y]) (rest := []) ⟨hx, hb, hml, hown, htb⟩ (c_Bd_fileToChangeT l hlt0 hd hg) (x_cV 2 htb mw_429 mw_1 mw_432 mw_431 ms_7 rfl rfl (by decide +kernel) ⟨Nat.le_of_ble_eq_true rfl, Nat.le_of_ble_eq_true rfl⟩) (x_preVT hK hN hT h1 rfl) rfl rfl hl.1 rfl (lv_room (Nat.le_of_ble_eq_true rfl)) d_Bd_rename_14 ⟨Nat.le_of_ble_eq_true rfl, Nat.le_of_ble_eq_true rfl⟩) hL (fun q hq => hq) hout hlocks (fun H1 q => q)
set_option maxHeartbeats 4000000 in
set_option maxRecDepth 100000 in
theorem c_Bd_renameT3 (l : Launch) (hlt0 : l.stackTraces = false) {D : va_G} {A : Nat → ClassId} {H0 : Heap} {a z : Nat} {S : g_S} (hd : g_D D A a z S H0) {x y x2 y2 : Int32} (hok : g_ok x y) (hok2 : g_ok x2 y2) {f : g_F} (hg : g_get S.2.2.1 (x, y, S.2.1) = some f) (hge : 200 ≤ S.2.2.2.2.2.1.length) : x_MetT l y_Bd_rename w_Bd_rename { frames := 7, cells := 2, slots := 9, locals := 111 } (x_PcT D A (g_Mx a z) [.ref a, .int x, .int y, .int x2, .int y2] H0) (x_QT "java/lang/IllegalStateException" (fun H1 => H0.size ≤ H1.size ∧ ∀ q : Nat, q < H0.size → H1[q]? = H0[q]?)) 2 9 (fun q => H0.size ≤ q) := by
  refine x_ofWT (cc := prog_1_method_5_code) (maxL := 6) (ret := none) (by decide) rfl ?_
  intro p e s m args below meth c s₁ B hml hv
  obtain ⟨rfl, hH, hK, hN, hT⟩ := hv
  obtain ⟨hx, hb, hr, htb, hown, hlocks⟩ := x_start (wd := Cond.code y_Bd_rename prog_1_method_5_code 6 none) B
  have hout := x_nohand B
  have hTs : x_T (g_Mx a z) s s.heap := by rw [hH]; exact hT
  have hl := lv_entry ([.ref a, .int x, .int y, .int x2, .int y2]) (n := 6) (Nat.le_of_ble_eq_true rfl)
  rw [lg_entry_eq]
  generalize (lg_sl ([.ref a, .int x, .int y, .int x2, .int y2]) ++ List.replicate (6 - (lg_sl ([.ref a, .int x, .int y, .int x2, .int y2])).length) Slot.unset).toArray = ls at hl ⊢
  have hl : lv_has ls 6 [(0, .ref a), (1, .int x), (2, .int y), (3, .int x2), (4, .int y2)] := hl
  rw [hH]
  have hL : ∀ q ∈ ([] : List Loc), (fun q : Nat => H0.size ≤ q) q.base := fun q hq => by cases hq
  obtain ⟨pa, as, bs, cs, ds, h1, h2, h3, ⟨h4, h4s⟩, ⟨h5, h5s⟩, ⟨h6, h6s⟩, ⟨h7, h7s⟩, h8, h9⟩ := id hd
  refine lv_iload_n hx hb d_Bd_rename_0 rfl (lv_at hl 1 rfl) ?_
  refine lv_iload_n hx hb d_Bd_rename_1 rfl (lv_at hl 2 rfl) ?_
  refine x_callP (va_runS (As := [.int x, .int y]) (rest := []) ⟨hx, hb, hml, hown, htb⟩ (c_Bd_refuse l hok) (x_cS 2 htb mw_330 mw_1 mw_332 mw_331 rfl rfl (by decide +kernel) ⟨Nat.le_of_ble_eq_true rfl, Nat.le_of_ble_eq_true rfl⟩) (x_preS hK hN) rfl rfl hl.1 rfl (lv_room (Nat.le_of_ble_eq_true rfl)) d_Bd_rename_2 ⟨Nat.le_of_ble_eq_true rfl, Nat.le_of_ble_eq_true rfl⟩) ?_
  refine W.eq (g2 := F0 m 5 ls []) rfl ?_
  refine lv_iload_n hx hb d_Bd_rename_5 rfl (lv_at hl 3 rfl) ?_
  refine lv_iload hx hb d_Bd_rename_6 (lv_at hl 4 rfl) ?_
  refine x_callP (va_runS (As := [.int x2, .int y2]) (rest := []) ⟨hx, hb, hml, hown, htb⟩ (c_Bd_refuse l hok2) (x_cS 2 htb mw_330 mw_1 mw_332 mw_331 rfl rfl (by decide +kernel) ⟨Nat.le_of_ble_eq_true rfl, Nat.le_of_ble_eq_true rfl⟩) (x_preS hK hN) rfl rfl hl.1 rfl (lv_room (Nat.le_of_ble_eq_true rfl)) d_Bd_rename_8 ⟨Nat.le_of_ble_eq_true rfl, Nat.le_of_ble_eq_true rfl⟩) ?_
  refine W.eq (g2 := F0 m 11 ls []) rfl ?_
  refine lv_aload_n hx hb d_Bd_rename_11 rfl (lv_at hl 0 rfl) ?_
  refine lv_iload_n hx hb d_Bd_rename_12 rfl (lv_at hl 1 rfl) ?_
  refine lv_iload_n hx hb d_Bd_rename_13 rfl (lv_at hl 2 rfl) ?_
  refine x_callr (F := fun q : Nat => H0.size ≤ q) (va_runV (As := [.int x, .int y]) (rest := []) ⟨hx, hb, hml, hown, htb⟩ (c_Bd_fileToChange l hd hg) (x_cV 2 htb mw_429 mw_1 mw_432 mw_431 ms_7 rfl rfl (by decide +kernel) ⟨Nat.le_of_ble_eq_true rfl, Nat.le_of_ble_eq_true rfl⟩) (x_preV hK hN h1 rfl) rfl rfl hl.1 rfl (lv_room (Nat.le_of_ble_eq_true rfl)) d_Bd_rename_14 ⟨Nat.le_of_ble_eq_true rfl, Nat.le_of_ble_eq_true rfl⟩) hL (fun q hq => hq) (fun fa H1 locs hP hL => ?_)
  obtain ⟨f1, k1z, k1o⟩ := hP
  have hd1 := hd.ext k1z k1o
  have hk1 : g_K (g_M a z) H0 H1 := ⟨k1z, fun q hq _ => k1o q hq⟩
  have q1 := h1.kept (k1o a (by omega))
  obtain ⟨na, ca, f2, f3, f4, f5⟩ := id f1
  have hT := hT.kept hk1
  refine lv_astore (lv' := [(5, .ref fa), (0, .ref a), (1, .int x), (2, .int y), (3, .int x2), (4, .int y2)]) hx hb d_Bd_rename_17 hl (by decide) rfl (fun ls hl => ?_)
  refine lv_aload_n hx hb d_Bd_rename_19 rfl (lv_at hl 1 rfl) ?_
  exact x_leaveT (F := fun q : Nat => H0.size ≤ q) (x_runVT (As := []) (rest := []) ⟨hx, hb, hml, hown, htb⟩ (c_Bd_refuseFullT l hlt0 hd1 hge) (x_cV 0 htb mw_366 mw_1 mw_369 mw_368 ms_4 rfl rfl (by decide +kernel) ⟨Nat.le_of_ble_eq_true rfl, Nat.le_of_ble_eq_true rfl⟩) (x_preVT hK hN hT q1 rfl) rfl rfl hl.1 rfl (lv_room (Nat.le_of_ble_eq_true rfl)) d_Bd_rename_20 ⟨Nat.le_of_ble_eq_true rfl, Nat.le_of_ble_eq_true rfl⟩) hL (fun q hq => by have hq : H1.size ≤ q := hq; omega) hout hlocks (fun H2 q => ⟨by omega, fun q2 hq2 => by rw [q.2 q2 (by omega), k1o q2 hq2]⟩)
