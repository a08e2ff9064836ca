/-! CONSTRUCTORS that make rows -/
set_option maxHeartbeats 4000000 in
set_option maxRecDepth 100000 in
theorem c_Tp_init (l : Launch) {D : va_G} {A : Nat → ClassId} {H0 : Heap} {t : Nat} (h : va_at D x_cl (t, .inr (4, [.null, .int 0])) H0) : Met l y_Tp_init w_Tp_init { frames := 1, cells := 1, slots := 400, locals := 12 } (x_Pc D A [.ref t] H0) (x_Q none (fun H1 => g_tp D A t H0.size [] H1 ∧ H1.size = H0.size + 1 ∧ ∀ q : Nat, q < H0.size → q ≠ t → H1[q]? = H0[q]?)) 1 400 (fun q : Nat => q = t ∨ H0.size ≤ q) := by
  refine Met.ofW (cc := prog_8_method_1_code) (maxL := 1) (ret := none) (by decide) rfl ?_
  intro p e s m args below meth c s₁ B hml hv
  obtain ⟨rfl, hH, hK, hN⟩ := hv
  obtain ⟨hx, hb, hr, htb, hown, hlocks⟩ := x_start (wd := Cond.code y_Tp_init prog_8_method_1_code 1 none) B
  have hin : meth.name = "<init>" := (name_of_methodNamed B.named B.method).1
  have hl := lv_entry ([.ref t]) (n := 1) (Nat.le_of_ble_eq_true rfl)
  rw [lg_entry_eq]
  generalize (lg_sl ([.ref t]) ++ List.replicate (1 - (lg_sl ([.ref t])).length) Slot.unset).toArray = ls at hl ⊢
  have hl : lv_has ls 1 [(0, .ref t)] := hl
  rw [hH]
  have hL : ∀ q ∈ ([] : List Loc), (fun q : Nat => q = t ∨ H0.size ≤ q) q.base := fun q hq => by cases hq
  have hts : t < H0.size := h.lt
  refine lv_aload_n hx hb d_Tp_init_0 rfl (lv_at hl 0 rfl) ?_
  refine W.objInit hx hb hown (htb _ mw_33) (htb _ mw_26) (show (Cond.code objectInit ⟨#[0xb1]⟩ 1 none).before _ s = true from htb _ mw_27) rfl (by rw [hml]; exact hl.1) rfl d_Tp_init_1 (Nat.le_of_ble_eq_true rfl) (Nat.le_of_ble_eq_true rfl) ?_
  refine W.eq (g2 := F0 m 4 ls []) rfl ?_
  refine lv_aload_n hx hb d_Tp_init_4 rfl (lv_at hl 0 rfl) ?_
  refine lv_sipush (v := 400) hx hb d_Tp_init_5 (by decide) ?_
  refine x_newa (atype := .byte) hx hb (htb _ mw_42) (ty := .byte) rfl hK 0 rfl (fun C q => by cases q) (N' := 400) (a0 := (400, .inl (fun _ => 0))) rfl (by decide) (by decide) (by decide) (Nat.le_of_ble_eq_true rfl) (Nat.le_of_ble_eq_true rfl) d_Tp_init_8 (fun H1 k1 k1z k1o => ?_)
  have h1 : va_at D x_cl (t, .inr (4, [.null, .int 0])) H1 := h.kept (k1o t hts)
  refine x_putF (F := fun q : Nat => q = t ∨ H0.size ≤ q) (ci := 4) (v := .ref H0.size) (ty := .array .byte) (T := T_Tp) hx hb htb u_Tp t_Tp t_Tp_ok n_Tp hown hK h1 hL (Or.inl rfl) rfl 0 (by decide) (htb _ mw_34) (fun _ h9 => h9) rfl hin rfl (by decide +kernel) rfl rfl (Nat.le_of_ble_eq_true rfl) d_Tp_init_10 (fun H2 locs h2 hc1 hL => ?_)
  have h2 : va_at D x_cl (t, .inr (4, [.ref H0.size, .int 0])) H2 := h2
  refine lv_aload_n hx hb d_Tp_init_13 rfl (lv_at hl 0 rfl) ?_
  refine lv_iconst (v := 0) hx hb d_Tp_init_14 (by decide) ?_
  refine x_put (F := fun q : Nat => q = t ∨ H0.size ≤ q) (ci := 4) (v := .int 0) (ty := .int) (T := T_Tp) hx hb htb u_Tp t_Tp t_Tp_ok n_Tp hown hK h2 hL (Or.inl rfl) rfl 1 (by decide) (htb _ mw_35) (fun _ h9 => h9) rfl (by decide +kernel) rfl rfl (Nat.le_of_ble_eq_true rfl) d_Tp_init_15 (fun H3 locs h3 hc2 hL => ?_)
  have h3 : va_at D x_cl (t, .inr (4, [.ref H0.size, .int 0])) H3 := h3
  have hb3 := hc1.trans hc2
  have k3 := hb3.at k1 (by omega)
  exact x_vret hx hb hr hlocks ⟨⟨fun _ => 0, h3, k3, fun j hj => absurd hj (Nat.not_lt_zero j), sb_fit0, Nat.zero_le _, fun u hu => by cases hu⟩, by rw [hb3.1, k1z], fun q hq hqt => by rw [hb3.2 q hqt, k1o q hq]⟩ hL (Nat.le_refl _) (Nat.le_refl _) d_Tp_init_18
set_option maxHeartbeats 4000000 in
set_option maxRecDepth 100000 in
theorem c_Fi_init (l : Launch) {D : va_G} {A : Nat → ClassId} {H0 : Heap} {t : Nat} (h : va_at D x_cl (t, .inr (5, [.null, .int 0])) H0) : Met l y_Fi_init w_Fi_init { frames := 1, cells := 1, slots := 60, locals := 12 } (x_Pc D A [.ref t] H0) (x_Q none (fun H1 => g_fr D A 5 1 60 t H0.size [] H1 ∧ H1.size = H0.size + 1 ∧ ∀ q : Nat, q < H0.size → q ≠ t → H1[q]? = H0[q]?)) 1 60 (fun q : Nat => q = t ∨ H0.size ≤ q) := by
  refine Met.ofW (cc := prog_3_method_1_code) (maxL := 1) (ret := none) (by decide) rfl ?_
  intro p e s m args below meth c s₁ B hml hv
  obtain ⟨rfl, hH, hK, hN⟩ := hv
  obtain ⟨hx, hb, hr, htb, hown, hlocks⟩ := x_start (wd := Cond.code y_Fi_init prog_3_method_1_code 1 none) B
  have hin : meth.name = "<init>" := (name_of_methodNamed B.named B.method).1
  have hl := lv_entry ([.ref t]) (n := 1) (Nat.le_of_ble_eq_true rfl)
  rw [lg_entry_eq]
  generalize (lg_sl ([.ref t]) ++ List.replicate (1 - (lg_sl ([.ref t])).length) Slot.unset).toArray = ls at hl ⊢
  have hl : lv_has ls 1 [(0, .ref t)] := hl
  rw [hH]
  have hL : ∀ q ∈ ([] : List Loc), (fun q : Nat => q = t ∨ H0.size ≤ q) q.base := fun q hq => by cases hq
  have hts : t < H0.size := h.lt
  refine lv_aload_n hx hb d_Fi_init_0 rfl (lv_at hl 0 rfl) ?_
  refine W.objInit hx hb hown (htb _ mw_48) (htb _ mw_26) (show (Cond.code objectInit ⟨#[0xb1]⟩ 1 none).before _ s = true from htb _ mw_27) rfl (by rw [hml]; exact hl.1) rfl d_Fi_init_1 (Nat.le_of_ble_eq_true rfl) (Nat.le_of_ble_eq_true rfl) ?_
  refine W.eq (g2 := F0 m 4 ls []) rfl ?_
  refine lv_aload_n hx hb d_Fi_init_4 rfl (lv_at hl 0 rfl) ?_
  refine lv_bipush (v := 60) hx hb d_Fi_init_5 (by decide) ?_
  refine x_newq (C := "BreakingDisk$StoredFile") hx hb hown (htb _ mw_49) (va_AO.use (hN.1 _ nf_50)) hK 1 rfl (N' := 60) (by decide) (by decide) (by decide) (Nat.le_of_ble_eq_true rfl) (Nat.le_of_ble_eq_true rfl) d_Fi_init_7 (fun H1 k1 k1z k1o => ?_)
  have h1 : va_at D x_cl (t, .inr (5, [.null, .int 0])) H1 := h.kept (k1o t hts)
  refine x_putF (F := fun q : Nat => q = t ∨ H0.size ≤ q) (ci := 5) (v := .ref H0.size) (ty := .array (.object "BreakingDisk$StoredFile")) (T := T_Fi) hx hb htb u_Fi t_Fi t_Fi_ok n_Fi hown hK h1 hL (Or.inl rfl) rfl 0 (by decide) (htb _ mw_51) (fun _ h9 => h9) rfl hin rfl (by decide +kernel) rfl rfl (Nat.le_of_ble_eq_true rfl) d_Fi_init_10 (fun H2 locs h2 hc3 hL => ?_)
  have h2 : va_at D x_cl (t, .inr (5, [.ref H0.size, .int 0])) H2 := h2
  refine lv_aload_n hx hb d_Fi_init_13 rfl (lv_at hl 0 rfl) ?_
  refine lv_iconst (v := 0) hx hb d_Fi_init_14 (by decide) ?_
  refine x_put (F := fun q : Nat => q = t ∨ H0.size ≤ q) (ci := 5) (v := .int 0) (ty := .int) (T := T_Fi) hx hb htb u_Fi t_Fi t_Fi_ok n_Fi hown hK h2 hL (Or.inl rfl) rfl 1 (by decide) (htb _ mw_52) (fun _ h9 => h9) rfl (by decide +kernel) rfl rfl (Nat.le_of_ble_eq_true rfl) d_Fi_init_15 (fun H3 locs h3 hc4 hL => ?_)
  have h3 : va_at D x_cl (t, .inr (5, [.ref H0.size, .int 0])) H3 := h3
  have hb3 := hc3.trans hc4
  have k3 := hb3.at k1 (by omega)
  exact x_vret hx hb hr hlocks ⟨⟨fun _ => none, h3, k3, fun j a q => by simp at q, Nat.zero_le _⟩, by rw [hb3.1, k1z], fun q hq hqt => by rw [hb3.2 q hqt, k1o q hq]⟩ hL (Nat.le_refl _) (Nat.le_refl _) d_Fi_init_18
set_option maxHeartbeats 4000000 in
set_option maxRecDepth 100000 in
theorem c_Jo_init (l : Launch) {D : va_G} {A : Nat → ClassId} {H0 : Heap} {t : Nat} (h : va_at D x_cl (t, .inr (6, [.null, .int 0])) H0) : Met l y_Jo_init w_Jo_init { frames := 1, cells := 1, slots := 200, locals := 12 } (x_Pc D A [.ref t] H0) (x_Q none (fun H1 => g_fr D A 6 2 200 t H0.size [] H1 ∧ H1.size = H0.size + 1 ∧ ∀ q : Nat, q < H0.size → q ≠ t → H1[q]? = H0[q]?)) 1 200 (fun q : Nat => q = t ∨ H0.size ≤ q) := by
  refine Met.ofW (cc := prog_4_method_1_code) (maxL := 1) (ret := none) (by decide) rfl ?_
  intro p e s m args below meth c s₁ B hml hv
  obtain ⟨rfl, hH, hK, hN⟩ := hv
  obtain ⟨hx, hb, hr, htb, hown, hlocks⟩ := x_start (wd := Cond.code y_Jo_init prog_4_method_1_code 1 none) B
  have hin : meth.name = "<init>" := (name_of_methodNamed B.named B.method).1
  have hl := lv_entry ([.ref t]) (n := 1) (Nat.le_of_ble_eq_true rfl)
  rw [lg_entry_eq]
  generalize (lg_sl ([.ref t]) ++ List.replicate (1 - (lg_sl ([.ref t])).length) Slot.unset).toArray = ls at hl ⊢
  have hl : lv_has ls 1 [(0, .ref t)] := hl
  rw [hH]
  have hL : ∀ q ∈ ([] : List Loc), (fun q : Nat => q = t ∨ H0.size ≤ q) q.base := fun q hq => by cases hq
  have hts : t < H0.size := h.lt
  refine lv_aload_n hx hb d_Jo_init_0 rfl (lv_at hl 0 rfl) ?_
  refine W.objInit hx hb hown (htb _ mw_64) (htb _ mw_26) (show (Cond.code objectInit ⟨#[0xb1]⟩ 1 none).before _ s = true from htb _ mw_27) rfl (by rw [hml]; exact hl.1) rfl d_Jo_init_1 (Nat.le_of_ble_eq_true rfl) (Nat.le_of_ble_eq_true rfl) ?_
  refine W.eq (g2 := F0 m 4 ls []) rfl ?_
  refine lv_aload_n hx hb d_Jo_init_4 rfl (lv_at hl 0 rfl) ?_
  refine lv_sipush (v := 200) hx hb d_Jo_init_5 (by decide) ?_
  refine x_newq (C := "BreakingDisk$Operation") hx hb hown (htb _ mw_65) (va_AO.use (hN.1 _ nf_66)) hK 2 rfl (N' := 200) (by decide) (by decide) (by decide) (Nat.le_of_ble_eq_true rfl) (Nat.le_of_ble_eq_true rfl) d_Jo_init_8 (fun H1 k1 k1z k1o => ?_)
  have h1 : va_at D x_cl (t, .inr (6, [.null, .int 0])) H1 := h.kept (k1o t hts)
  refine x_putF (F := fun q : Nat => q = t ∨ H0.size ≤ q) (ci := 6) (v := .ref H0.size) (ty := .array (.object "BreakingDisk$Operation")) (T := T_Jo) hx hb htb u_Jo t_Jo t_Jo_ok n_Jo hown hK h1 hL (Or.inl rfl) rfl 0 (by decide) (htb _ mw_67) (fun _ h9 => h9) rfl hin rfl (by decide +kernel) rfl rfl (Nat.le_of_ble_eq_true rfl) d_Jo_init_11 (fun H2 locs h2 hc5 hL => ?_)
  have h2 : va_at D x_cl (t, .inr (6, [.ref H0.size, .int 0])) H2 := h2
  refine lv_aload_n hx hb d_Jo_init_14 rfl (lv_at hl 0 rfl) ?_
  refine lv_iconst (v := 0) hx hb d_Jo_init_15 (by decide) ?_
  refine x_put (F := fun q : Nat => q = t ∨ H0.size ≤ q) (ci := 6) (v := .int 0) (ty := .int) (T := T_Jo) hx hb htb u_Jo t_Jo t_Jo_ok n_Jo hown hK h2 hL (Or.inl rfl) rfl 1 (by decide) (htb _ mw_68) (fun _ h9 => h9) rfl (by decide +kernel) rfl rfl (Nat.le_of_ble_eq_true rfl) d_Jo_init_16 (fun H3 locs h3 hc6 hL => ?_)
  have h3 : va_at D x_cl (t, .inr (6, [.ref H0.size, .int 0])) H3 := h3
  have hb3 := hc5.trans hc6
  have k3 := hb3.at k1 (by omega)
  exact x_vret hx hb hr hlocks ⟨⟨fun _ => none, h3, k3, fun j a q => by simp at q, Nat.zero_le _⟩, by rw [hb3.1, k1z], fun q hq hqt => by rw [hb3.2 q hqt, k1o q hq]⟩ hL (Nat.le_refl _) (Nat.le_refl _) d_Jo_init_19
