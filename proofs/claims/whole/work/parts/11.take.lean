set_option maxHeartbeats 4000000 in
set_option maxRecDepth 100000 in
theorem c_Tp_take (l : Launch) {D : va_G} {A : Nat → ClassId} {H0 : Heap} {M : Nat → Prop} {t r : Nat} {us : List Nat} (h : g_tp D A t r us H0) (hM1 : M t) (hM2 : M r) (hMn : ∀ q, H0.size ≤ q → ¬ M q) (n1 : t ≠ r) : Met l y_Tp_take w_Tp_take { frames := 2, cells := 2, slots := 401, locals := 82 } (x_Pc D A [.ref t] H0) (x_Q (some (.ref H0.size)) (fun H1 => g_bs D A M H0.size us H1 ∧ g_tp D A t r [] H1 ∧ H0.size ≤ H1.size ∧ ∀ q : Nat, q < H0.size → q ≠ t → q ≠ r → H1[q]? = H0[q]?)) 2 401 (x_fr M H0) := by
  refine Met.ofW (cc := prog_8_method_3_code) (maxL := 2) (ret := (some (.object "BreakingDisk$Bytes"))) (by decide) rfl ?_
  intro p e s m args below meth c s₁ B hml hv
  obtain ⟨rfl, hH, hK, hN⟩ := hv
  obtain ⟨hx, hb, hr, htb, hown, hlocks⟩ := x_start (wd := Cond.code y_Tp_take prog_8_method_3_code 2 (some (.object "BreakingDisk$Bytes"))) B
  have hl := lv_entry ([.ref t]) (n := 2) (Nat.le_of_ble_eq_true rfl)
  rw [lg_entry_eq]
  generalize (lg_sl ([.ref t]) ++ List.replicate (2 - (lg_sl ([.ref t])).length) Slot.unset).toArray = ls at hl ⊢
  have hl : lv_has ls 2 [(0, .ref t)] := hl
  rw [hH]
  obtain ⟨f, h1, h2, h3, h4, h5, h6⟩ := h
  have hL : ∀ q ∈ ([] : List Loc), x_fr M H0 q.base := fun q hq => by cases hq
  have hts : t < H0.size := h1.lt
  have hrs : r < H0.size := h2.lt
  refine x_new (ci := 0) (fs := [.null]) (T := T_By) (N := 1) hx hb htb u_By t_By t_By_ok hown (htb _ mw_303) (htb _ mw_76) (htb _ mw_5) hK rfl df_By (Nat.le_of_ble_eq_true rfl) (Nat.le_of_ble_eq_true rfl) d_Tp_take_0 (fun H1 k1 k1z k1o => ?_)
  have q1 : va_at D x_cl (t, .inr (4, [.ref r, .int (nI us.length)])) H1 := h1.kept (k1o t hts)
  have q2 : va_at D x_cl (r, .inl (A 0, 400, .inl f)) H1 := h2.kept (k1o r hrs)
  refine lv_dup hx hb d_Tp_take_3 rfl ?_
  refine lv_aload_n hx hb d_Tp_take_4 rfl (lv_at hl 0 rfl) ?_
  refine x_get (ci := 4) (T := T_Tp) hx hb htb u_Tp hown hK q1 rfl 0 (by decide) (htb _ mw_34) (fun _ h9 => h9) (v := .ref r) rfl d_Tp_take_5 ?_
  refine lv_aload_n hx hb d_Tp_take_8 rfl (lv_at hl 0 rfl) ?_
  refine x_get (ci := 4) (T := T_Tp) hx hb htb u_Tp hown hK q1 rfl 1 (by decide) (htb _ mw_35) (fun _ h9 => h9) (v := .int (nI us.length)) rfl d_Tp_take_9 ?_
  refine x_callr (F := x_fr M H0) (va_runS (As := [.ref r, .int (nI us.length)]) (rest := [.ref H0.size, .ref H0.size]) ⟨hx, hb, hml, hown, htb⟩ (c_Ar_copyOf l q2 h4 (Nat.le_refl _) h5) (x_cS 2 htb mw_304 mw_11 mw_306 mw_305 rfl rfl (by decide +kernel) ⟨Nat.le_of_ble_eq_true rfl, Nat.le_of_ble_eq_true rfl⟩) (x_preS hK hN) rfl rfl hl.1 rfl (lv_room (Nat.le_of_ble_eq_true rfl)) d_Tp_take_12 ⟨Nat.le_of_ble_eq_true rfl, Nat.le_of_ble_eq_true rfl⟩) hL (fun q hq => hq.elim (fun e => Or.inl (e ▸ hM2)) (fun e => Or.inr (by omega))) (fun y H2 locs hP hL => ?_)
  obtain ⟨y1, y2, y3, y4⟩ := hP
  refine W.eq (g2 := F0 m 15 ls [.ref y, .ref H0.size, .ref H0.size]) rfl ?_
  have k2 : va_at D x_cl (H0.size, .inr (0, [.null])) H2 := k1.kept (y4 _ (by omega))
  refine x_call (F := x_fr M H0) (va_runI (As := [.ref y]) (rest := [.ref H0.size]) ⟨hx, hb, hml, hown, htb⟩ (c_By_init l (r := y) k2) (x_cI 1 htb mw_320 mw_5 mw_79 mw_78 rfl rfl rfl (by decide +kernel) ⟨Nat.le_of_ble_eq_true rfl, Nat.le_of_ble_eq_true rfl⟩) (x_preS hK hN) rfl rfl hl.1 rfl (lv_room (Nat.le_of_ble_eq_true rfl)) d_Tp_take_15 ⟨Nat.le_of_ble_eq_true rfl, Nat.le_of_ble_eq_true rfl⟩) hL (fun q hq => Or.inr (by rw [hq]; exact Nat.le_refl _)) (fun H3 locs hP hL => ?_)
  refine W.eq (g2 := F0 m 18 ls [.ref H0.size]) rfl ?_
  obtain ⟨k3, hb3⟩ := hP
  refine lv_astore_n (lv' := [(1, .ref H0.size), (0, .ref t)]) hx hb d_Tp_take_18 rfl hl (by decide) rfl (fun ls hl => ?_)
  refine lv_aload_n hx hb d_Tp_take_19 rfl (lv_at hl 1 rfl) ?_
  refine lv_iconst (v := 0) hx hb d_Tp_take_20 (by decide) ?_
  have q1 : va_at D x_cl (t, .inr (4, [.ref r, .int (nI us.length)])) H3 := hb3.at (q1.kept (y4 t (by omega))) (by omega)
  refine x_put (F := x_fr M H0) (ci := 4) (v := .int 0) (ty := .int) (T := T_Tp) hx hb htb u_Tp t_Tp t_Tp_ok n_Tp hown hK q1 hL (Or.inl hM1) rfl 1 (by decide) (htb _ mw_35) (fun _ h9 => h9) rfl (by decide +kernel) rfl rfl (Nat.le_of_ble_eq_true rfl) d_Tp_take_21 (fun H4 locs q5 hc1 hL => ?_)
  have q5 : va_at D x_cl (t, .inr (4, [.ref r, .int 0])) H4 := q5
  refine lv_aload_n hx hb d_Tp_take_24 rfl (lv_at hl 0 rfl) ?_
  have hk4 : x_but t H3 H4 := hc1
  have hold : ∀ q : Nat, q < H0.size → q ≠ t → H4[q]? = H0[q]? := fun q hq hqt => by
    rw [hk4.2 q hqt, hb3.2 q (by omega), y4 q (by omega), k1o q hq]
  have hz : H0.size ≤ H4.size := by
    rw [hk4.1, hb3.1]
    omega
  have hyy : va_at D x_cl (y, .inl (A 0, us.length, .inl f)) H4 := hk4.at (hb3.at y2 (by omega)) (by omega)
  refine x_aret hx hb hr (Or.inl ⟨_, rfl⟩) (Or.inr ⟨_, rfl⟩) hlocks ⟨⟨y, hk4.at k3 (by omega), ?_, hMn _ (Nat.le_refl _), hMn _ (by omega), h6, h5⟩, ⟨f, q5, h2.kept (hold r hrs n1.symm), fun j hj => absurd hj (Nat.not_lt_zero j), h4, Nat.zero_le _, fun u hu => by cases hu⟩, hz, fun q hq h1 h2 => hold q hq h1⟩ hL (Nat.le_refl _) (Nat.le_refl _) d_Tp_take_25
  show H4[y]? = some (vp_cell (A 0) (us.length, .inl (fun j => sb_b (us.getD j 0))))
  rw [show H4[y]? = some _ from hyy]
  exact congrArg some (g_arr h3)
