set_option maxHeartbeats 4000000 in
set_option maxRecDepth 100000 in
theorem c_By_init (l : Launch) {D : va_G} {A : Nat → ClassId} {H0 : Heap} {a : Nat} {r : Nat} (h : va_at D x_cl (a, .inr (0, [.null])) H0) : Met l y_By_init w_By_init { frames := 1, cells := 0, slots := 0, locals := 12 } (x_Pc D A [.ref a, .ref r] H0) (x_Q none (fun H1 => va_at D x_cl (a, .inr (0, [.ref r])) H1 ∧ x_but a H0 H1)) 0 0 (fun q => q = a) := by
  refine Met.ofW (cc := prog_2_method_1_code) (maxL := 2) (ret := none) (by decide) rfl ?_
  intro p e s m args below meth c s₁ B hml hv
  obtain ⟨rfl, hH, hK, hN⟩ := hv
  obtain ⟨hx, hb, hr, htb, hown, hlocks⟩ := x_start (wd := Cond.code y_By_init prog_2_method_1_code 2 none) B
  have hin : meth.name = "<init>" := (name_of_methodNamed B.named B.method).1
  have hl := lv_entry ([.ref a, .ref r]) (n := 2) (Nat.le_of_ble_eq_true rfl)
  rw [lg_entry_eq]
  generalize (lg_sl ([.ref a, .ref r]) ++ List.replicate (2 - (lg_sl ([.ref a, .ref r])).length) Slot.unset).toArray = ls at hl ⊢
  have hl : lv_has ls 2 [(0, .ref a), (1, .ref r)] := hl
  rw [hH]
  refine lv_aload_n hx hb d_By_init_0 rfl (lv_at hl 0 rfl) ?_
  refine W.objInit hx hb hown (htb _ mw_80) (htb _ mw_26) (show (Cond.code objectInit ⟨#[0xb1]⟩ 1 none).before _ s = true from htb _ mw_27) rfl (by rw [hml]; exact hl.1) rfl d_By_init_1 (Nat.le_of_ble_eq_true rfl) (Nat.le_of_ble_eq_true rfl) ?_
  refine W.eq (g2 := F0 m 4 ls []) rfl ?_
  have hL : ∀ q ∈ ([] : List Loc), (fun q : Nat => q = a) q.base := fun q hq => by cases hq
  refine lv_aload_n hx hb d_By_init_4 rfl (lv_at hl 0 rfl) ?_
  refine lv_aload_n hx hb d_By_init_5 rfl (lv_at hl 1 rfl) ?_
  refine x_putF (F := fun q : Nat => q = a) (ci := 0) (v := .ref r) (ty := .array .byte) (T := T_By) hx hb htb u_By t_By t_By_ok n_By hown hK h hL rfl rfl 0 (by decide) (htb _ mw_81) (fun _ h9 => h9) rfl hin rfl (by decide +kernel) rfl rfl (Nat.le_of_ble_eq_true rfl) d_By_init_6 (fun H1 locs hf2 hc3 hL => ?_)
  have hf2 : va_at D x_cl (a, .inr (0, [.ref r])) H1 := hf2
  exact x_vret hx hb hr hlocks ⟨hf2, hc3⟩ hL (Nat.le_refl _) (Nat.le_refl _) d_By_init_9
set_option maxHeartbeats 4000000 in
set_option maxRecDepth 100000 in
theorem c_Nm_init (l : Launch) {D : va_G} {A : Nat → ClassId} {H0 : Heap} {a : Nat} {x y : Int32} {b : Nat} (h : va_at D x_cl (a, .inr (1, [.int 0, .int 0, .null])) H0) : Met l y_Nm_init w_Nm_init { frames := 1, cells := 0, slots := 0, locals := 12 } (x_Pc D A [.ref a, .int x, .int y, .ref b] H0) (x_Q none (fun H1 => va_at D x_cl (a, .inr (1, [.int x, .int y, .ref b])) H1 ∧ x_but a H0 H1)) 0 0 (fun q => q = a) := by
  refine Met.ofW (cc := prog_5_method_1_code) (maxL := 4) (ret := none) (by decide) rfl ?_
  intro p e s m args below meth c s₁ B hml hv
  obtain ⟨rfl, hH, hK, hN⟩ := hv
  obtain ⟨hx, hb, hr, htb, hown, hlocks⟩ := x_start (wd := Cond.code y_Nm_init prog_5_method_1_code 4 none) B
  have hin : meth.name = "<init>" := (name_of_methodNamed B.named B.method).1
  have hl := lv_entry ([.ref a, .int x, .int y, .ref b]) (n := 4) (Nat.le_of_ble_eq_true rfl)
  rw [lg_entry_eq]
  generalize (lg_sl ([.ref a, .int x, .int y, .ref b]) ++ List.replicate (4 - (lg_sl ([.ref a, .int x, .int y, .ref b])).length) Slot.unset).toArray = ls at hl ⊢
  have hl : lv_has ls 4 [(0, .ref a), (1, .int x), (2, .int y), (3, .ref b)] := hl
  rw [hH]
  refine lv_aload_n hx hb d_Nm_init_0 rfl (lv_at hl 0 rfl) ?_
  refine W.objInit hx hb hown (htb _ mw_140) (htb _ mw_26) (show (Cond.code objectInit ⟨#[0xb1]⟩ 1 none).before _ s = true from htb _ mw_27) rfl (by rw [hml]; exact hl.1) rfl d_Nm_init_1 (Nat.le_of_ble_eq_true rfl) (Nat.le_of_ble_eq_true rfl) ?_
  refine W.eq (g2 := F0 m 4 ls []) rfl ?_
  have hL : ∀ q ∈ ([] : List Loc), (fun q : Nat => q = a) q.base := fun q hq => by cases hq
  refine lv_aload_n hx hb d_Nm_init_4 rfl (lv_at hl 0 rfl) ?_
  refine lv_iload_n hx hb d_Nm_init_5 rfl (lv_at hl 1 rfl) ?_
  refine x_putF (F := fun q : Nat => q = a) (ci := 1) (v := .int x) (ty := .int) (T := T_Nm) hx hb htb u_Nm t_Nm t_Nm_ok n_Nm hown hK h hL rfl rfl 0 (by decide) (htb _ mw_141) (fun _ h9 => h9) rfl hin rfl (by decide +kernel) rfl rfl (Nat.le_of_ble_eq_true rfl) d_Nm_init_6 (fun H4 locs hf5 hc6 hL => ?_)
  have hf5 : va_at D x_cl (a, .inr (1, [.int x, .int 0, .null])) H4 := hf5
  refine lv_aload_n hx hb d_Nm_init_9 rfl (lv_at hl 0 rfl) ?_
  refine lv_iload_n hx hb d_Nm_init_10 rfl (lv_at hl 2 rfl) ?_
  refine x_putF (F := fun q : Nat => q = a) (ci := 1) (v := .int y) (ty := .int) (T := T_Nm) hx hb htb u_Nm t_Nm t_Nm_ok n_Nm hown hK hf5 hL rfl rfl 1 (by decide) (htb _ mw_143) (fun _ h9 => h9) rfl hin rfl (by decide +kernel) rfl rfl (Nat.le_of_ble_eq_true rfl) d_Nm_init_11 (fun H7 locs hf8 hc9 hL => ?_)
  have hf8 : va_at D x_cl (a, .inr (1, [.int x, .int y, .null])) H7 := hf8
  refine lv_aload_n hx hb d_Nm_init_14 rfl (lv_at hl 0 rfl) ?_
  refine lv_aload_n hx hb d_Nm_init_15 rfl (lv_at hl 3 rfl) ?_
  refine x_putF (F := fun q : Nat => q = a) (ci := 1) (v := .ref b) (ty := .object "BreakingDisk$Bytes") (T := T_Nm) hx hb htb u_Nm t_Nm t_Nm_ok n_Nm hown hK hf8 hL rfl rfl 2 (by decide) (htb _ mw_145) (fun _ h9 => h9) rfl hin rfl (by decide +kernel) rfl rfl (Nat.le_of_ble_eq_true rfl) d_Nm_init_16 (fun H10 locs hf11 hc12 hL => ?_)
  have hf11 : va_at D x_cl (a, .inr (1, [.int x, .int y, .ref b])) H10 := hf11
  exact x_vret hx hb hr hlocks ⟨hf11, ((hc6.trans hc9).trans hc12)⟩ hL (Nat.le_refl _) (Nat.le_refl _) d_Nm_init_19
set_option maxHeartbeats 4000000 in
set_option maxRecDepth 100000 in
theorem c_Sf_init (l : Launch) {D : va_G} {A : Nat → ClassId} {H0 : Heap} {a : Nat} {b d : Nat} (h : va_at D x_cl (a, .inr (2, [.null, .null])) H0) : Met l y_Sf_init w_Sf_init { frames := 1, cells := 0, slots := 0, locals := 12 } (x_Pc D A [.ref a, .ref b, .ref d] H0) (x_Q none (fun H1 => va_at D x_cl (a, .inr (2, [.ref b, .ref d])) H1 ∧ x_but a H0 H1)) 0 0 (fun q => q = a) := by
  refine Met.ofW (cc := prog_7_method_1_code) (maxL := 3) (ret := none) (by decide) rfl ?_
  intro p e s m args below meth c s₁ B hml hv
  obtain ⟨rfl, hH, hK, hN⟩ := hv
  obtain ⟨hx, hb, hr, htb, hown, hlocks⟩ := x_start (wd := Cond.code y_Sf_init prog_7_method_1_code 3 none) B
  have hin : meth.name = "<init>" := (name_of_methodNamed B.named B.method).1
  have hl := lv_entry ([.ref a, .ref b, .ref d]) (n := 3) (Nat.le_of_ble_eq_true rfl)
  rw [lg_entry_eq]
  generalize (lg_sl ([.ref a, .ref b, .ref d]) ++ List.replicate (3 - (lg_sl ([.ref a, .ref b, .ref d])).length) Slot.unset).toArray = ls at hl ⊢
  have hl : lv_has ls 3 [(0, .ref a), (1, .ref b), (2, .ref d)] := hl
  rw [hH]
  refine lv_aload_n hx hb d_Sf_init_0 rfl (lv_at hl 0 rfl) ?_
  refine W.objInit hx hb hown (htb _ mw_382) (htb _ mw_26) (show (Cond.code objectInit ⟨#[0xb1]⟩ 1 none).before _ s = true from htb _ mw_27) rfl (by rw [hml]; exact hl.1) rfl d_Sf_init_1 (Nat.le_of_ble_eq_true rfl) (Nat.le_of_ble_eq_true rfl) ?_
  refine W.eq (g2 := F0 m 4 ls []) rfl ?_
  have hL : ∀ q ∈ ([] : List Loc), (fun q : Nat => q = a) q.base := fun q hq => by cases hq
  refine lv_aload_n hx hb d_Sf_init_4 rfl (lv_at hl 0 rfl) ?_
  refine lv_aload_n hx hb d_Sf_init_5 rfl (lv_at hl 1 rfl) ?_
  refine x_putF (F := fun q : Nat => q = a) (ci := 2) (v := .ref b) (ty := .object "BreakingDisk$Name") (T := T_Sf) hx hb htb u_Sf t_Sf t_Sf_ok n_Sf hown hK h hL rfl rfl 0 (by decide) (htb _ mw_383) (fun _ h9 => h9) rfl hin rfl (by decide +kernel) rfl rfl (Nat.le_of_ble_eq_true rfl) d_Sf_init_6 (fun H13 locs hf14 hc15 hL => ?_)
  have hf14 : va_at D x_cl (a, .inr (2, [.ref b, .null])) H13 := hf14
  refine lv_aload_n hx hb d_Sf_init_9 rfl (lv_at hl 0 rfl) ?_
  refine lv_aload_n hx hb d_Sf_init_10 rfl (lv_at hl 2 rfl) ?_
  refine x_putF (F := fun q : Nat => q = a) (ci := 2) (v := .ref d) (ty := .object "BreakingDisk$Bytes") (T := T_Sf) hx hb htb u_Sf t_Sf t_Sf_ok n_Sf hown hK hf14 hL rfl rfl 1 (by decide) (htb _ mw_386) (fun _ h9 => h9) rfl hin rfl (by decide +kernel) rfl rfl (Nat.le_of_ble_eq_true rfl) d_Sf_init_11 (fun H16 locs hf17 hc18 hL => ?_)
  have hf17 : va_at D x_cl (a, .inr (2, [.ref b, .ref d])) H16 := hf17
  exact x_vret hx hb hr hlocks ⟨hf17, (hc15.trans hc18)⟩ hL (Nat.le_refl _) (Nat.le_refl _) d_Sf_init_14
set_option maxHeartbeats 4000000 in
set_option maxRecDepth 100000 in
theorem c_Op_init (l : Launch) {D : va_G} {A : Nat → ClassId} {H0 : Heap} {a b d : Nat} (h : va_at D x_cl (a, .inr (3, [.null, .null])) H0) : Met l y_Op_init w_Op_init { frames := 1, cells := 0, slots := 0, locals := 12 } (x_Pc D A [.ref a, .ref b, .ref d] H0) (x_Q none (fun H1 => va_at D x_cl (a, .inr (3, [.ref b, .ref d])) H1 ∧ x_but a H0 H1)) 0 0 (fun q => q = a) := by
  refine Met.ofW (cc := prog_6_method_1_code) (maxL := 3) (ret := none) (by decide) rfl ?_
  intro p e s m args below meth c s₁ B hml hv
  obtain ⟨rfl, hH, hK, hN⟩ := hv
  obtain ⟨hx, hb, hr, htb, hown, hlocks⟩ := x_start (wd := Cond.code y_Op_init prog_6_method_1_code 3 none) B
  have hin : meth.name = "<init>" := (name_of_methodNamed B.named B.method).1
  have hl := lv_entry ([.ref a, .ref b, .ref d]) (n := 3) (Nat.le_of_ble_eq_true rfl)
  rw [lg_entry_eq]
  generalize (lg_sl ([.ref a, .ref b, .ref d]) ++ List.replicate (3 - (lg_sl ([.ref a, .ref b, .ref d])).length) Slot.unset).toArray = ls at hl ⊢
  have hl : lv_has ls 3 [(0, .ref a), (1, .ref b), (2, .ref d)] := hl
  rw [hH]
  refine lv_aload_n hx hb d_Op_init_0 rfl (lv_at hl 0 rfl) ?_
  refine W.objInit hx hb hown (htb _ mw_396) (htb _ mw_26) (show (Cond.code objectInit ⟨#[0xb1]⟩ 1 none).before _ s = true from htb _ mw_27) rfl (by rw [hml]; exact hl.1) rfl d_Op_init_1 (Nat.le_of_ble_eq_true rfl) (Nat.le_of_ble_eq_true rfl) ?_
  refine W.eq (g2 := F0 m 4 ls []) rfl ?_
  have hL : ∀ q ∈ ([] : List Loc), (fun q : Nat => q = a) q.base := fun q hq => by cases hq
  refine lv_aload_n hx hb d_Op_init_4 rfl (lv_at hl 0 rfl) ?_
  refine lv_aload_n hx hb d_Op_init_5 rfl (lv_at hl 1 rfl) ?_
  refine x_putF (F := fun q : Nat => q = a) (ci := 3) (v := .ref b) (ty := .object "BreakingDisk$Name") (T := T_Op) hx hb htb u_Op t_Op t_Op_ok n_Op hown hK h hL rfl rfl 0 (by decide) (htb _ mw_397) (fun _ h9 => h9) rfl hin rfl (by decide +kernel) rfl rfl (Nat.le_of_ble_eq_true rfl) d_Op_init_6 (fun H19 locs hf20 hc21 hL => ?_)
  have hf20 : va_at D x_cl (a, .inr (3, [.ref b, .null])) H19 := hf20
  refine lv_aload_n hx hb d_Op_init_9 rfl (lv_at hl 0 rfl) ?_
  refine lv_aload_n hx hb d_Op_init_10 rfl (lv_at hl 2 rfl) ?_
  refine x_putF (F := fun q : Nat => q = a) (ci := 3) (v := .ref d) (ty := .object "BreakingDisk$StoredFile") (T := T_Op) hx hb htb u_Op t_Op t_Op_ok n_Op hown hK hf20 hL rfl rfl 1 (by decide) (htb _ mw_399) (fun _ h9 => h9) rfl hin rfl (by decide +kernel) rfl rfl (Nat.le_of_ble_eq_true rfl) d_Op_init_11 (fun H22 locs hf23 hc24 hL => ?_)
  have hf23 : va_at D x_cl (a, .inr (3, [.ref b, .ref d])) H22 := hf23
  exact x_vret hx hb hr hlocks ⟨hf23, (hc21.trans hc24)⟩ hL (Nat.le_refl _) (Nat.le_refl _) d_Op_init_14
set_option maxHeartbeats 4000000 in
set_option maxRecDepth 100000 in
theorem c_Op_initN (l : Launch) {D : va_G} {A : Nat → ClassId} {H0 : Heap} {a b : Nat} (h : va_at D x_cl (a, .inr (3, [.null, .null])) H0) : Met l y_Op_init w_Op_init { frames := 1, cells := 0, slots := 0, locals := 12 } (x_Pc D A [.ref a, .ref b, .null] H0) (x_Q none (fun H1 => va_at D x_cl (a, .inr (3, [.ref b, .null])) H1 ∧ x_but a H0 H1)) 0 0 (fun q => q = a) := by
  refine Met.ofW (cc := prog_6_method_1_code) (maxL := 3) (ret := none) (by decide) rfl ?_
  intro p e s m args below meth c s₁ B hml hv
  obtain ⟨rfl, hH, hK, hN⟩ := hv
  obtain ⟨hx, hb, hr, htb, hown, hlocks⟩ := x_start (wd := Cond.code y_Op_init prog_6_method_1_code 3 none) B
  have hin : meth.name = "<init>" := (name_of_methodNamed B.named B.method).1
  have hl := lv_entry ([.ref a, .ref b, .null]) (n := 3) (Nat.le_of_ble_eq_true rfl)
  rw [lg_entry_eq]
  generalize (lg_sl ([.ref a, .ref b, .null]) ++ List.replicate (3 - (lg_sl ([.ref a, .ref b, .null])).length) Slot.unset).toArray = ls at hl ⊢
  have hl : lv_has ls 3 [(0, .ref a), (1, .ref b), (2, .null)] := hl
  rw [hH]
  refine lv_aload_n hx hb d_Op_init_0 rfl (lv_at hl 0 rfl) ?_
  refine W.objInit hx hb hown (htb _ mw_396) (htb _ mw_26) (show (Cond.code objectInit ⟨#[0xb1]⟩ 1 none).before _ s = true from htb _ mw_27) rfl (by rw [hml]; exact hl.1) rfl d_Op_init_1 (Nat.le_of_ble_eq_true rfl) (Nat.le_of_ble_eq_true rfl) ?_
  refine W.eq (g2 := F0 m 4 ls []) rfl ?_
  have hL : ∀ q ∈ ([] : List Loc), (fun q : Nat => q = a) q.base := fun q hq => by cases hq
  refine lv_aload_n hx hb d_Op_init_4 rfl (lv_at hl 0 rfl) ?_
  refine lv_aload_n hx hb d_Op_init_5 rfl (lv_at hl 1 rfl) ?_
  refine x_putF (F := fun q : Nat => q = a) (ci := 3) (v := .ref b) (ty := .object "BreakingDisk$Name") (T := T_Op) hx hb htb u_Op t_Op t_Op_ok n_Op hown hK h hL rfl rfl 0 (by decide) (htb _ mw_397) (fun _ h9 => h9) rfl hin rfl (by decide +kernel) rfl rfl (Nat.le_of_ble_eq_true rfl) d_Op_init_6 (fun H25 locs hf26 hc27 hL => ?_)
  have hf26 : va_at D x_cl (a, .inr (3, [.ref b, .null])) H25 := hf26
  refine lv_aload_n hx hb d_Op_init_9 rfl (lv_at hl 0 rfl) ?_
  refine lv_aload_nN hx hb d_Op_init_10 rfl (lv_at hl 2 rfl) ?_
  refine x_putF (F := fun q : Nat => q = a) (ci := 3) (v := .null) (ty := .object "BreakingDisk$StoredFile") (T := T_Op) hx hb htb u_Op t_Op t_Op_ok n_Op hown hK hf26 hL rfl rfl 1 (by decide) (htb _ mw_399) (fun _ h9 => h9) rfl hin rfl (by decide +kernel) rfl rfl (Nat.le_of_ble_eq_true rfl) d_Op_init_11 (fun H28 locs hf29 hc30 hL => ?_)
  have hf29 : va_at D x_cl (a, .inr (3, [.ref b, .null])) H28 := hf29
  exact x_vret hx hb hr hlocks ⟨hf29, (hc27.trans hc30)⟩ hL (Nat.le_refl _) (Nat.le_refl _) d_Op_init_14
set_option maxHeartbeats 4000000 in
set_option maxRecDepth 100000 in
theorem c_By_length (l : Launch) {D : va_G} {A : Nat → ClassId} {H0 : Heap} {M : Nat → Prop} {a : Nat} {us : List Nat} (h : g_bs D A M a us H0) : Met l y_By_length w_By_length { frames := 0, cells := 0, slots := 0, locals := 0 } (x_Pc D A [.ref a] H0) (x_Q (some (.int (nI us.length))) (fun H1 => H1 = H0)) 0 0 (fun _ => False) := by
  refine Met.ofW (cc := prog_2_method_2_code) (maxL := 1) (ret := (some .int)) (by decide) rfl ?_
  intro p e s m args below meth c s₁ B hml hv
  obtain ⟨rfl, hH, hK, hN⟩ := hv
  obtain ⟨hx, hb, hr, htb, hown, hlocks⟩ := x_start (wd := Cond.code y_By_length prog_2_method_2_code 1 (some .int)) B
  have hl := lv_entry ([.ref a]) (n := 1) (Nat.le_of_ble_eq_true rfl)
  rw [lg_entry_eq]
  generalize (lg_sl ([.ref a]) ++ List.replicate (1 - (lg_sl ([.ref a])).length) Slot.unset).toArray = ls at hl ⊢
  have hl : lv_has ls 1 [(0, .ref a)] := hl
  rw [hH]
  obtain ⟨r, h1, h2, h3, h4, h5, h6⟩ := h
  refine lv_aload_n hx hb d_By_length_0 rfl (lv_at hl 0 rfl) ?_
  refine x_get (ci := 0) (T := T_By) hx hb htb u_By hown hK h1 rfl 0 (by decide) (htb _ mw_81) (fun _ h9 => h9) (v := .ref r) rfl d_By_length_1 ?_
  refine x_alen hx hb hK 0 h2 rfl (v := nI us.length) rfl d_By_length_4 ?_
  exact x_iret hx hb hr hlocks rfl rfl (fun q hq => by cases hq) (Nat.le_refl _) (Nat.le_refl _) d_By_length_5
set_option maxHeartbeats 4000000 in
set_option maxRecDepth 100000 in
theorem c_By_byteAt (l : Launch) {D : va_G} {A : Nat → ClassId} {H0 : Heap} {M : Nat → Prop} {a : Nat} {us : List Nat} (h : g_bs D A M a us H0) (k : Int32) : Met l y_By_byteAt w_By_byteAt { frames := 0, cells := 0, slots := 0, locals := 0 } (x_Pc D A [.ref a, .int k] H0) (x_Q (some (.int (g_at us k))) (fun H1 => H1 = H0)) 0 0 (fun _ => False) := by
  refine Met.ofW (cc := prog_2_method_3_code) (maxL := 2) (ret := (some .int)) (by decide) rfl ?_
  intro p e s m args below meth c s₁ B hml hv
  obtain ⟨rfl, hH, hK, hN⟩ := hv
  obtain ⟨hx, hb, hr, htb, hown, hlocks⟩ := x_start (wd := Cond.code y_By_byteAt prog_2_method_3_code 2 (some .int)) B
  have hl := lv_entry ([.ref a, .int k]) (n := 2) (Nat.le_of_ble_eq_true rfl)
  rw [lg_entry_eq]
  generalize (lg_sl ([.ref a, .int k]) ++ List.replicate (2 - (lg_sl ([.ref a, .int k])).length) Slot.unset).toArray = ls at hl ⊢
  have hl : lv_has ls 2 [(0, .ref a), (1, .int k)] := hl
  rw [hH]
  obtain ⟨r, h1, h2, h3, h4, h5, h6⟩ := h
  refine lv_iload_n hx hb d_By_byteAt_0 rfl (lv_at hl 1 rfl) ?_
  refine lv_if_lt (tgt := 26) hx hb d_By_byteAt_1 (by decide) (fun c1 => ?_) (fun c1 => ?_)
  · refine lv_iconst (v := (-1)) hx hb d_By_byteAt_26 (by decide) ?_
    exact x_iret hx hb hr hlocks (by rw [g_at, if_pos c1]) rfl (fun q hq => by cases hq) (Nat.le_refl _) (Nat.le_refl _) d_By_byteAt_27
  · refine lv_iload_n hx hb d_By_byteAt_4 rfl (lv_at hl 1 rfl) ?_
    refine lv_aload_n hx hb d_By_byteAt_5 rfl (lv_at hl 0 rfl) ?_
    refine x_get (ci := 0) (T := T_By) hx hb htb u_By hown hK h1 rfl 0 (by decide) (htb _ mw_81) (fun _ h9 => h9) (v := .ref r) rfl d_By_byteAt_6 ?_
    refine x_alen hx hb hK 0 h2 rfl (v := nI us.length) rfl d_By_byteAt_9 ?_
    refine lv_icmp_ge (tgt := 26) hx hb d_By_byteAt_10 (by decide) (fun c2 => ?_) (fun c2 => ?_)
    · refine lv_iconst (v := (-1)) hx hb d_By_byteAt_26 (by decide) ?_
      exact x_iret hx hb hr hlocks (by rw [g_at, if_neg c1, if_pos c2]) rfl (fun q hq => by cases hq) (Nat.le_refl _) (Nat.le_refl _) d_By_byteAt_27
    · refine lv_aload_n hx hb d_By_byteAt_13 rfl (lv_at hl 0 rfl) ?_
      refine x_get (ci := 0) (T := T_By) hx hb htb u_By hown hK h1 rfl 0 (by decide) (htb _ mw_81) (fun _ h9 => h9) (v := .ref r) rfl d_By_byteAt_14 ?_
      refine lv_iload_n hx hb d_By_byteAt_17 rfl (lv_at hl 1 rfl) ?_
      obtain ⟨j, hj, ej⟩ : ∃ j : Nat, j < us.length ∧ k = nI j := by
        rcases pk_ix k (n := us.length) (by omega) with q | q | q
        · exact absurd q c1
        · exact absurd q c2
        · exact q
      refine x_bald hx hb hK 0 h2 rfl (by rw [ej]; exact vp_in_nI hj (by omega)) d_By_byteAt_18 ?_
      refine lv_sipush (v := 255) hx hb d_By_byteAt_19 (by decide) ?_
      refine lv_iand hx hb d_By_byteAt_22 ?_
      refine lv_goto (tgt := 27) hx hb d_By_byteAt_23 (by decide) ?_
      refine x_top (y := nI (us.getD k.toNatClampNeg 0)) (g_and h5 _) ?_
      exact x_iret hx hb hr hlocks (by rw [g_at, if_neg c1, if_neg c2]) rfl (fun q hq => by cases hq) (Nat.le_refl _) (Nat.le_refl _) d_By_byteAt_27
set_option maxHeartbeats 4000000 in
set_option maxRecDepth 100000 in
theorem c_It_compare (l : Launch) {D : va_G} {A : Nat → ClassId} {H0 : Heap} (x y : Int32) : Met l y_It_compare w_It_compare { frames := 0, cells := 0, slots := 0, locals := 0 } (x_Pc D A [.int x, .int y] H0) (x_Q (some (.int (g_cmp x y))) (fun H1 => H1 = H0)) 0 0 (fun _ => False) := by
  refine Met.ofW (cc := prog_16_method_40_code) (maxL := 2) (ret := (some .int)) (by decide) rfl ?_
  intro p e s m args below meth c s₁ B hml hv
  obtain ⟨rfl, hH, hK, hN⟩ := hv
  obtain ⟨hx, hb, hr, htb, hown, hlocks⟩ := x_start (wd := Cond.code y_It_compare prog_16_method_40_code 2 (some .int)) B
  have hl := lv_entry ([.int x, .int y]) (n := 2) (Nat.le_of_ble_eq_true rfl)
  rw [lg_entry_eq]
  generalize (lg_sl ([.int x, .int y]) ++ List.replicate (2 - (lg_sl ([.int x, .int y])).length) Slot.unset).toArray = ls at hl ⊢
  have hl : lv_has ls 2 [(0, .int x), (1, .int y)] := hl
  rw [hH]
  refine lv_iload_n hx hb d_It_compare_0 rfl (lv_at hl 0 rfl) ?_
  refine lv_iload_n hx hb d_It_compare_1 rfl (lv_at hl 1 rfl) ?_
  refine lv_icmp_ge (tgt := 9) hx hb d_It_compare_2 (by decide) (fun c1 => ?_) (fun c1 => ?_)
  · refine lv_iload_n hx hb d_It_compare_9 rfl (lv_at hl 0 rfl) ?_
    refine lv_iload_n hx hb d_It_compare_10 rfl (lv_at hl 1 rfl) ?_
    refine lv_icmp_ne (tgt := 18) hx hb d_It_compare_11 (by decide) (fun c2 => ?_) (fun c2 => ?_)
    · refine lv_iconst (v := 1) hx hb d_It_compare_18 (by decide) ?_
      exact x_iret hx hb hr hlocks (by rw [g_cmp, if_neg (Int32.not_lt.mpr c1), if_neg c2]) rfl (fun q hq => by cases hq) (Nat.le_refl _) (Nat.le_refl _) d_It_compare_19
    · refine lv_iconst (v := 0) hx hb d_It_compare_14 (by decide) ?_
      refine lv_goto (tgt := 19) hx hb d_It_compare_15 (by decide) ?_
      exact x_iret hx hb hr hlocks (by rw [g_cmp, if_neg (Int32.not_lt.mpr c1), if_pos c2]) rfl (fun q hq => by cases hq) (Nat.le_refl _) (Nat.le_refl _) d_It_compare_19
  · refine lv_iconst (v := (-1)) hx hb d_It_compare_5 (by decide) ?_
    refine lv_goto (tgt := 19) hx hb d_It_compare_6 (by decide) ?_
    exact x_iret hx hb hr hlocks (by rw [g_cmp, if_pos (Int32.not_le.mp c1)]) rfl (fun q hq => by cases hq) (Nat.le_refl _) (Nat.le_refl _) d_It_compare_19
set_option maxHeartbeats 4000000 in
set_option maxRecDepth 100000 in
theorem c_By_order (l : Launch) {D : va_G} {A : Nat → ClassId} {H0 : Heap} {M : Nat → Prop} {a b : Nat} {us vs : List Nat} (h : g_bs D A M a us H0) (g : g_bs D A M b vs H0) : Met l y_By_order w_By_order { frames := 0, cells := 0, slots := 0, locals := 0 } (x_Pc D A [.ref a, .ref b] H0) (x_Q (some (.int (g_po us vs))) (fun H1 => H1 = H0)) 0 0 (fun _ => False) := by
  refine Met.ofW (cc := prog_2_method_4_code) (maxL := 5) (ret := (some .int)) (by decide) rfl ?_
  intro p e s m args below meth c s₁ B hml hv
  obtain ⟨rfl, hH, hK, hN⟩ := hv
  obtain ⟨hx, hb, hr, htb, hown, hlocks⟩ := x_start (wd := Cond.code y_By_order prog_2_method_4_code 5 (some .int)) B
  have hl := lv_entry ([.ref a, .ref b]) (n := 5) (Nat.le_of_ble_eq_true rfl)
  rw [lg_entry_eq]
  generalize (lg_sl ([.ref a, .ref b]) ++ List.replicate (5 - (lg_sl ([.ref a, .ref b])).length) Slot.unset).toArray = ls at hl ⊢
  have hl : lv_has ls 5 [(0, .ref a), (1, .ref b)] := hl
  rw [hH]
  obtain ⟨r, h1, h2, h3, h4, h5, h6⟩ := h
  obtain ⟨t, g1, g2, g3, g4, g5, g6⟩ := g
  refine lv_iconst (v := 0) hx hb d_By_order_0 (by decide) ?_
  refine lv_istore_n (lv' := [(2, .int 0), (0, .ref a), (1, .ref b)]) hx hb d_By_order_1 rfl hl (by decide) rfl (fun ls hl => ?_)
  refine x_loop (σ := Nat × Array Slot) (fun z => F0 m 2 z.2 []) (fun _ => H0) (fun _ => []) (fun z => z.1 ≤ us.length ∧ z.1 ≤ vs.length ∧ g_po us vs = g_po (us.drop z.1) (vs.drop z.1) ∧ lv_has z.2 5 [(2, .int (nI z.1)), (0, .ref a), (1, .ref b)]) (fun z => us.length - z.1) (s0 := (0, ls)) ⟨Nat.zero_le _, Nat.zero_le _, rfl, hl⟩ ?_
  rintro ⟨k, ls⟩ ⟨hk1, hk2, hpo, hl⟩ ih
  dsimp only at hk1 hk2 hpo hl ih ⊢
  refine lv_iload_n hx hb d_By_order_2 rfl (lv_at hl 0 rfl) ?_
  refine lv_aload_n hx hb d_By_order_3 rfl (lv_at hl 1 rfl) ?_
  refine x_get (ci := 0) (T := T_By) hx hb htb u_By hown hK h1 rfl 0 (by decide) (htb _ mw_81) (fun _ h9 => h9) (v := .ref r) rfl d_By_order_4 ?_
  refine x_alen hx hb hK 0 h2 rfl (v := nI us.length) rfl d_By_order_7 ?_
  refine lv_icmp_ge (tgt := 81) hx hb d_By_order_8 (by decide) (fun c1 => ?_) (fun c1 => ?_)
  · have e1 : us.drop k = [] := List.drop_eq_nil_of_le (Nat.le_of_not_lt fun q => absurd c1 (nI_ge q (by omega)))
    have e2 : k = us.length := Nat.le_antisymm hk1 (Nat.le_of_not_lt fun q => absurd c1 (nI_ge q (by omega)))
    refine lv_aload_n hx hb d_By_order_81 rfl (lv_at hl 1 rfl) ?_
    refine x_get (ci := 0) (T := T_By) hx hb htb u_By hown hK h1 rfl 0 (by decide) (htb _ mw_81) (fun _ h9 => h9) (v := .ref r) rfl d_By_order_82 ?_
    refine x_alen hx hb hK 0 h2 rfl (v := nI us.length) rfl d_By_order_85 ?_
    refine lv_aload_n hx hb d_By_order_86 rfl (lv_at hl 2 rfl) ?_
    refine x_get (ci := 0) (T := T_By) hx hb htb u_By hown hK g1 rfl 0 (by decide) (htb _ mw_81) (fun _ h9 => h9) (v := .ref t) rfl d_By_order_87 ?_
    refine x_alen hx hb hK 0 g2 rfl (v := nI vs.length) rfl d_By_order_90 ?_
    refine lv_isub hx hb d_By_order_91 ?_
    exact x_iret hx hb hr hlocks (by rw [hpo, e1]; exact g_po_nil e2 hk2) rfl (fun q hq => by cases hq) (Nat.le_refl _) (Nat.le_refl _) d_By_order_92
  · have hlt : k < us.length := Nat.lt_of_not_le fun q => absurd (nI_le q (by omega)) c1
    refine lv_iload_n hx hb d_By_order_11 rfl (lv_at hl 0 rfl) ?_
    refine lv_aload_n hx hb d_By_order_12 rfl (lv_at hl 2 rfl) ?_
    refine x_get (ci := 0) (T := T_By) hx hb htb u_By hown hK g1 rfl 0 (by decide) (htb _ mw_81) (fun _ h9 => h9) (v := .ref t) rfl d_By_order_13 ?_
    refine x_alen hx hb hK 0 g2 rfl (v := nI vs.length) rfl d_By_order_16 ?_
    refine lv_icmp_ge (tgt := 81) hx hb d_By_order_17 (by decide) (fun c2 => ?_) (fun c2 => ?_)
    · have e2 : k = vs.length := Nat.le_antisymm hk2 (Nat.le_of_not_lt fun q => absurd c2 (nI_ge q (by omega)))
      refine lv_aload_n hx hb d_By_order_81 rfl (lv_at hl 1 rfl) ?_
      refine x_get (ci := 0) (T := T_By) hx hb htb u_By hown hK h1 rfl 0 (by decide) (htb _ mw_81) (fun _ h9 => h9) (v := .ref r) rfl d_By_order_82 ?_
      refine x_alen hx hb hK 0 h2 rfl (v := nI us.length) rfl d_By_order_85 ?_
      refine lv_aload_n hx hb d_By_order_86 rfl (lv_at hl 2 rfl) ?_
      refine x_get (ci := 0) (T := T_By) hx hb htb u_By hown hK g1 rfl 0 (by decide) (htb _ mw_81) (fun _ h9 => h9) (v := .ref t) rfl d_By_order_87 ?_
      refine x_alen hx hb hK 0 g2 rfl (v := nI vs.length) rfl d_By_order_90 ?_
      refine lv_isub hx hb d_By_order_91 ?_
      exact x_iret hx hb hr hlocks (by rw [hpo]; exact g_po_nil2 e2 hk1) rfl (fun q hq => by cases hq) (Nat.le_refl _) (Nat.le_refl _) d_By_order_92
    · have hlt2 : k < vs.length := Nat.lt_of_not_le fun q => absurd (nI_le q (by omega)) c2
      have hst := g_po_step hlt hlt2
      rw [← hpo] at hst
      have hd1 := g_u h5 k
      have hd2 := g_u g5 k
      generalize hu : us.getD k 0 = u at hst hd1
      generalize hvv : vs.getD k 0 = v at hst hd2
      refine lv_aload_n hx hb d_By_order_20 rfl (lv_at hl 1 rfl) ?_
      refine x_get (ci := 0) (T := T_By) hx hb htb u_By hown hK h1 rfl 0 (by decide) (htb _ mw_81) (fun _ h9 => h9) (v := .ref r) rfl d_By_order_21 ?_
      refine lv_iload_n hx hb d_By_order_24 rfl (lv_at hl 0 rfl) ?_
      refine x_bald hx hb hK 0 h2 rfl (vp_in_nI hlt (by omega)) d_By_order_25 ?_
      refine x_top (y := sb_b u) (by rw [nI_clamp (by omega), hu]) ?_
      refine lv_sipush (v := 255) hx hb d_By_order_26 (by decide) ?_
      refine lv_iand hx hb d_By_order_29 ?_
      refine x_top (y := nI u) ((sb_byte u hd1).1) ?_
      refine lv_istore_n (lv' := [(3, .int (nI u)), (2, .int (nI k)), (0, .ref a), (1, .ref b)]) hx hb d_By_order_30 rfl hl (by decide) rfl (fun ls hl => ?_)
      refine lv_aload_n hx hb d_By_order_31 rfl (lv_at hl 3 rfl) ?_
      refine x_get (ci := 0) (T := T_By) hx hb htb u_By hown hK g1 rfl 0 (by decide) (htb _ mw_81) (fun _ h9 => h9) (v := .ref t) rfl d_By_order_32 ?_
      refine lv_iload_n hx hb d_By_order_35 rfl (lv_at hl 1 rfl) ?_
      refine x_bald hx hb hK 0 g2 rfl (vp_in_nI hlt2 (by omega)) d_By_order_36 ?_
      refine x_top (y := sb_b v) (by rw [nI_clamp (by omega), hvv]) ?_
      refine lv_sipush (v := 255) hx hb d_By_order_37 (by decide) ?_
      refine lv_iand hx hb d_By_order_40 ?_
      refine x_top (y := nI v) ((sb_byte v hd2).1) ?_
      refine lv_istore (lv' := [(4, .int (nI v)), (3, .int (nI u)), (2, .int (nI k)), (0, .ref a), (1, .ref b)]) hx hb d_By_order_41 hl (by decide) rfl (fun ls hl => ?_)
      refine lv_iload_n hx hb d_By_order_43 rfl (lv_at hl 1 rfl) ?_
      refine lv_iload hx hb d_By_order_44 (lv_at hl 0 rfl) ?_
      refine lv_icmp_eq (tgt := 75) hx hb d_By_order_46 (by decide) (fun c3 => ?_) (fun c3 => ?_)
      · have e3 : u = v := (nI_eq (by omega) (by omega)).mp c3
        refine lv_iinc (v := nI (k + 1)) (lv' := [(2, .int (nI (k + 1))), (4, .int (nI v)), (3, .int (nI u)), (0, .ref a), (1, .ref b)]) hx hb d_By_order_75 hl (k := 2) rfl (nI_1 k) (by decide) rfl (fun ls hl => ?_)
        refine lv_goto (tgt := 2) hx hb d_By_order_78 (by decide) ?_
        exact ih (k + 1, ls) ⟨hlt, hlt2, by rw [hst, if_pos e3], (lv_sub hl [0, 3, 4] rfl)⟩ (by show us.length - (k + 1) < us.length - k; omega)
      · have e3 : ¬ u = v := fun e => c3 (by rw [e])
        refine lv_iload_n hx hb d_By_order_49 rfl (lv_at hl 1 rfl) ?_
        refine lv_bipush (v := 47) hx hb d_By_order_50 (by decide) ?_
        refine lv_icmp_ne (tgt := 59) hx hb d_By_order_52 (by decide) (fun c4 => ?_) (fun c4 => ?_)
        · have e4 : ¬ u = 47 := fun e => c4 (by rw [e]; rfl)
          refine lv_iload hx hb d_By_order_59 (lv_at hl 0 rfl) ?_
          refine lv_bipush (v := 47) hx hb d_By_order_61 (by decide) ?_
          refine lv_icmp_ne (tgt := 70) hx hb d_By_order_63 (by decide) (fun c5 => ?_) (fun c5 => ?_)
          · have e5 : ¬ v = 47 := fun e => c5 (by rw [e]; rfl)
            refine lv_iload_n hx hb d_By_order_70 rfl (lv_at hl 1 rfl) ?_
            refine lv_iload hx hb d_By_order_71 (lv_at hl 0 rfl) ?_
            refine lv_isub hx hb d_By_order_73 ?_
            exact x_iret hx hb hr hlocks (by rw [hst, if_neg e3, if_neg e4, if_neg e5]) rfl (fun q hq => by cases hq) (Nat.le_refl _) (Nat.le_refl _) d_By_order_74
          · have e5 : v = 47 := (nI_eq (by omega) (by omega)).mp c5
            refine lv_iconst (v := 1) hx hb d_By_order_66 (by decide) ?_
            refine lv_goto (tgt := 74) hx hb d_By_order_67 (by decide) ?_
            exact x_iret hx hb hr hlocks (by rw [hst, if_neg e3, if_neg e4, if_pos e5]) rfl (fun q hq => by cases hq) (Nat.le_refl _) (Nat.le_refl _) d_By_order_74
        · have e4 : u = 47 := (nI_eq (by omega) (by omega)).mp c4
          refine lv_iconst (v := (-1)) hx hb d_By_order_55 (by decide) ?_
          refine lv_goto (tgt := 74) hx hb d_By_order_56 (by decide) ?_
          exact x_iret hx hb hr hlocks (by rw [hst, if_neg e3, if_pos e4]) rfl (fun q hq => by cases hq) (Nat.le_refl _) (Nat.le_refl _) d_By_order_74
