theorem g_ixv_none {r : Option Nat} (h : g_ixv r = -1) (hr : ∀ i, r = some i → i < 2 ^ 31) : r = none := by
  cases r with
  | none => rfl
  | some i => exact absurd h (m_nm1 (hr i rfl))
theorem m_lt {fs : List g_F} {n : g_N} (h : fs.length ≤ 60) : ∀ i, g_find fs n = some i → i < 2 ^ 31 := fun i hi => by
  have := g_find_lt hi
  omega
def m_push (S : m_S) (us : List Nat) (o : m_P) : m_S := (us, S.2.1, m_act S.2.2.1 o, S.2.2.2.1, S.2.2.2.2.1 ++ [o], S.2.2.2.2.2.1 + 1, S.2.2.2.2.2.2)
theorem m_M.th {D : va_G} {A : Nat → ClassId} {b : Nat} {t1 t2 t3 t4 t5 t6 t7 th : Int32} {S : m_S} {G : m_G} {H : Heap} (ho : m_O D b th t1 t2 t3 t4 t5 t6 t7 H) (hR : m_R D A b G H) (hV : m_V G S) (e1 : t1 = nI S.1.length) (e2 : t2 = nI S.2.1.length) (e3 : t3 = nI S.2.2.1.length) (e4 : t4 = nI S.2.2.2.1.length) (e5 : t5 = nI S.2.2.2.2.1.length) (e6 : t6 = nI S.2.2.2.2.2.1) (e7 : t7 = nI S.2.2.2.2.2.2.length) : m_M D A b th S H := by
  subst e1 e2 e3 e4 e5 e6 e7
  exact ⟨G, ho, hR, hV⟩

set_option maxHeartbeats 4000000 in
set_option maxRecDepth 100000 in
theorem c_Mo_deleteT1 (l : Launch) {D : va_G} {A : Nat → ClassId} {H0 : Heap} {b : Nat} {th : Int32} {S : m_S} (h : m_M D A b th S H0) {x y : Int32} (hok : ¬ g_ok x y) : Met l y_Mo_delete w_Mo_delete { frames := 4, cells := 0, slots := 0, locals := 96 } (x_Pc D A [.ref b, .int x, .int y] H0) (x_Q none (fun H1 => m_M D A b 1 S H1 ∧ m_K b H0 H1)) 0 0 (m_fq b) := by
  refine Met.ofW (cc := prog_10_method_17_code) (maxL := 4) (ret := none) (by decide) rfl ?_
  intro p e s m args below meth c s₁ B hml hv
  obtain ⟨rfl, hH, hK, hN⟩ := hv
  obtain ⟨hx, hb, hr, htb, hown, hlocks⟩ := x_start (wd := Cond.code y_Mo_delete prog_10_method_17_code 4 none) B
  have hl := lv_entry ([.ref b, .int x, .int y]) (n := 4) (Nat.le_of_ble_eq_true rfl)
  rw [lg_entry_eq]
  generalize (lg_sl ([.ref b, .int x, .int y]) ++ List.replicate (4 - (lg_sl ([.ref b, .int x, .int y])).length) Slot.unset).toArray = ls at hl ⊢
  have hl : lv_has ls 4 [(0, .ref b), (1, .int x), (2, .int y)] := hl
  rw [hH]
  obtain ⟨G, ho, hR, hV⟩ := h
  obtain ⟨w1, w2, ⟨w3, w4⟩, ⟨w5, w6⟩, ⟨w7, w8⟩, w9, w10⟩ := id hV
  have hM : m_K b H0 H0 := m_K.refl
  have hL : ∀ q ∈ ([] : List Loc), m_fq b q.base := fun q hq => by cases hq
  refine lv_aload_n hx hb d_Mo_delete_0 rfl (lv_at hl 0 rfl) ?_
  refine lv_iload_n hx hb d_Mo_delete_1 rfl (lv_at hl 1 rfl) ?_
  refine lv_iload_n hx hb d_Mo_delete_2 rfl (lv_at hl 2 rfl) ?_
  refine x_callP (va_runS (As := [.int x, .int y]) (rest := [.ref b]) ⟨hx, hb, hml, hown, htb⟩ (c_Mo_isName l x y) (x_cS 2 htb mw_554 mw_6 mw_556 mw_555 rfl rfl (by decide +kernel) ⟨Nat.le_of_ble_eq_true rfl, Nat.le_of_ble_eq_true rfl⟩) (x_preS hK hN) rfl rfl hl.1 rfl (lv_room (Nat.le_of_ble_eq_true rfl)) d_Mo_delete_3 ⟨Nat.le_of_ble_eq_true rfl, Nat.le_of_ble_eq_true rfl⟩) ?_
  refine W.eq (g2 := F0 m 6 ls [.int (g_okv x y), .ref b]) rfl ?_
  refine x_top (y := 0) (g_okv0 hok) ?_
  refine lv_if_ne (tgt := 13) hx hb d_Mo_delete_6 (by decide) (fun c9 => absurd rfl c9) (fun _ => ?_)
  refine lv_iconst (v := 1) hx hb d_Mo_delete_9 (by decide) ?_
  refine lv_goto (tgt := 42) hx hb d_Mo_delete_10 (by decide) ?_
  refine x_put (F := m_fq b) (ci := 8) (v := .int 1) (ty := .int) (T := T_Mo) hx hb htb u_Mo t_Mo t_Mo_ok n_Mo hown hK ho hL ⟨Nat.le_refl _, Nat.le_add_right _ _⟩ rfl 0 (by decide) (htb _ mw_463) (fun _ h9 => h9) rfl (by decide +kernel) rfl rfl (Nat.le_of_ble_eq_true rfl) d_Mo_delete_42 (fun Ht locs hf1 hc2 hL => ?_)
  have hf1 : va_at D x_cl (b, .inr (8, [.int 1, .ref (b + 1), .ref (b + 2), .int (nI S.1.length), .int (nI S.2.1.length), .ref (b + 3), .ref (b + 4), .ref (b + 5), .ref (b + 6), .ref (b + 7), .ref (b + 8), .int (nI S.2.2.1.length), .int (nI S.2.2.2.1.length), .int (nI S.2.2.2.2.1.length), .int (nI S.2.2.2.2.2.1), .ref (b + 9), .ref (b + 10), .ref (b + 11), .int (nI S.2.2.2.2.2.2.length), .ref (b + 12), .ref (b + 13), .ref (b + 14), .ref (b + 15)])) Ht := hf1
  have ho : m_O D b 1 (nI S.1.length) (nI S.2.1.length) (nI S.2.2.1.length) (nI S.2.2.2.1.length) (nI S.2.2.2.2.1.length) (nI S.2.2.2.2.2.1) (nI S.2.2.2.2.2.2.length) Ht := hf1
  have hR := hR.but0 hc2
  have hM := hM.trans (m_K.but0 hc2)
  refine lv_aload_n hx hb d_Mo_delete_45 rfl (lv_at hl 0 rfl) ?_
  refine x_get (ci := 8) (T := T_Mo) hx hb htb u_Mo hown hK ho rfl 0 (by decide) (htb _ mw_463) (fun _ h9 => h9) (v := .int 1) rfl d_Mo_delete_46 ?_
  refine lv_if_ne (tgt := 72) hx hb d_Mo_delete_49 (by decide) (fun _ => ?_) (fun c9 => absurd c9 (by decide))
  exact x_vret hx hb hr hlocks ⟨m_M.th ho hR hV rfl rfl rfl rfl rfl rfl rfl, hM⟩ hL (Nat.le_refl _) (Nat.le_refl _) d_Mo_delete_72
set_option maxHeartbeats 4000000 in
set_option maxRecDepth 100000 in
theorem c_Mo_deleteT2 (l : Launch) {D : va_G} {A : Nat → ClassId} {H0 : Heap} {b : Nat} {th : Int32} {S : m_S} (h : m_M D A b th S H0) {x y : Int32} (hok : g_ok x y) (hg : g_find S.2.2.1 (x, y, S.2.1) = none) : Met l y_Mo_delete w_Mo_delete { frames := 4, cells := 0, slots := 0, locals := 96 } (x_Pc D A [.ref b, .int x, .int y] H0) (x_Q none (fun H1 => m_M D A b 2 S H1 ∧ m_K b H0 H1)) 0 0 (m_fq b) := by
  refine Met.ofW (cc := prog_10_method_17_code) (maxL := 4) (ret := none) (by decide) rfl ?_
  intro p e s m args below meth c s₁ B hml hv
  obtain ⟨rfl, hH, hK, hN⟩ := hv
  obtain ⟨hx, hb, hr, htb, hown, hlocks⟩ := x_start (wd := Cond.code y_Mo_delete prog_10_method_17_code 4 none) B
  have hl := lv_entry ([.ref b, .int x, .int y]) (n := 4) (Nat.le_of_ble_eq_true rfl)
  rw [lg_entry_eq]
  generalize (lg_sl ([.ref b, .int x, .int y]) ++ List.replicate (4 - (lg_sl ([.ref b, .int x, .int y])).length) Slot.unset).toArray = ls at hl ⊢
  have hl : lv_has ls 4 [(0, .ref b), (1, .int x), (2, .int y)] := hl
  rw [hH]
  obtain ⟨G, ho, hR, hV⟩ := h
  obtain ⟨w1, w2, ⟨w3, w4⟩, ⟨w5, w6⟩, ⟨w7, w8⟩, w9, w10⟩ := id hV
  have hM : m_K b H0 H0 := m_K.refl
  have hL : ∀ q ∈ ([] : List Loc), m_fq b q.base := fun q hq => by cases hq
  refine lv_aload_n hx hb d_Mo_delete_0 rfl (lv_at hl 0 rfl) ?_
  refine lv_iload_n hx hb d_Mo_delete_1 rfl (lv_at hl 1 rfl) ?_
  refine lv_iload_n hx hb d_Mo_delete_2 rfl (lv_at hl 2 rfl) ?_
  refine x_callP (va_runS (As := [.int x, .int y]) (rest := [.ref b]) ⟨hx, hb, hml, hown, htb⟩ (c_Mo_isName l x y) (x_cS 2 htb mw_554 mw_6 mw_556 mw_555 rfl rfl (by decide +kernel) ⟨Nat.le_of_ble_eq_true rfl, Nat.le_of_ble_eq_true rfl⟩) (x_preS hK hN) rfl rfl hl.1 rfl (lv_room (Nat.le_of_ble_eq_true rfl)) d_Mo_delete_3 ⟨Nat.le_of_ble_eq_true rfl, Nat.le_of_ble_eq_true rfl⟩) ?_
  refine W.eq (g2 := F0 m 6 ls [.int (g_okv x y), .ref b]) rfl ?_
  refine x_top (y := 1) (g_okv1 hok) ?_
  refine lv_if_ne (tgt := 13) hx hb d_Mo_delete_6 (by decide) (fun _ => ?_) (fun c9 => absurd c9 (by decide))
  refine lv_aload_n hx hb d_Mo_delete_13 rfl (lv_at hl 0 rfl) ?_
  refine lv_iload_n hx hb d_Mo_delete_14 rfl (lv_at hl 1 rfl) ?_
  refine lv_iload_n hx hb d_Mo_delete_15 rfl (lv_at hl 2 rfl) ?_
  refine x_callP (va_runV (As := [.int x, .int y]) (rest := [.ref b]) ⟨hx, hb, hml, hown, htb⟩ (c_Mo_findHere l ho hR x y w4 w3 w2.1 w2.2.1 w2.2.2) (x_cV 2 htb mw_550 mw_6 mw_553 mw_552 ms_8 rfl rfl (by decide +kernel) ⟨Nat.le_of_ble_eq_true rfl, Nat.le_of_ble_eq_true rfl⟩) (x_preV hK hN ho rfl) rfl rfl hl.1 rfl (lv_room (Nat.le_of_ble_eq_true rfl)) d_Mo_delete_16 ⟨Nat.le_of_ble_eq_true rfl, Nat.le_of_ble_eq_true rfl⟩) ?_
  refine W.eq (g2 := F0 m 19 ls [.int (g_ixv (g_find S.2.2.1 (x, y, S.2.1))), .ref b]) rfl ?_
  refine x_top (y := (-1)) (congrArg g_ixv hg) ?_
  refine lv_iconst (v := (-1)) hx hb d_Mo_delete_19 (by decide) ?_
  refine lv_icmp_ne (tgt := 27) hx hb d_Mo_delete_20 (by decide) (fun c9 => absurd rfl c9) (fun _ => ?_)
  refine lv_iconst (v := 2) hx hb d_Mo_delete_23 (by decide) ?_
  refine lv_goto (tgt := 42) hx hb d_Mo_delete_24 (by decide) ?_
  refine x_put (F := m_fq b) (ci := 8) (v := .int 2) (ty := .int) (T := T_Mo) hx hb htb u_Mo t_Mo t_Mo_ok n_Mo hown hK ho hL ⟨Nat.le_refl _, Nat.le_add_right _ _⟩ rfl 0 (by decide) (htb _ mw_463) (fun _ h9 => h9) rfl (by decide +kernel) rfl rfl (Nat.le_of_ble_eq_true rfl) d_Mo_delete_42 (fun Ht locs hf3 hc4 hL => ?_)
  have hf3 : va_at D x_cl (b, .inr (8, [.int 2, .ref (b + 1), .ref (b + 2), .int (nI S.1.length), .int (nI S.2.1.length), .ref (b + 3), .ref (b + 4), .ref (b + 5), .ref (b + 6), .ref (b + 7), .ref (b + 8), .int (nI S.2.2.1.length), .int (nI S.2.2.2.1.length), .int (nI S.2.2.2.2.1.length), .int (nI S.2.2.2.2.2.1), .ref (b + 9), .ref (b + 10), .ref (b + 11), .int (nI S.2.2.2.2.2.2.length), .ref (b + 12), .ref (b + 13), .ref (b + 14), .ref (b + 15)])) Ht := hf3
  have ho : m_O D b 2 (nI S.1.length) (nI S.2.1.length) (nI S.2.2.1.length) (nI S.2.2.2.1.length) (nI S.2.2.2.2.1.length) (nI S.2.2.2.2.2.1) (nI S.2.2.2.2.2.2.length) Ht := hf3
  have hR := hR.but0 hc4
  have hM := hM.trans (m_K.but0 hc4)
  refine lv_aload_n hx hb d_Mo_delete_45 rfl (lv_at hl 0 rfl) ?_
  refine x_get (ci := 8) (T := T_Mo) hx hb htb u_Mo hown hK ho rfl 0 (by decide) (htb _ mw_463) (fun _ h9 => h9) (v := .int 2) rfl d_Mo_delete_46 ?_
  refine lv_if_ne (tgt := 72) hx hb d_Mo_delete_49 (by decide) (fun _ => ?_) (fun c9 => absurd c9 (by decide))
  exact x_vret hx hb hr hlocks ⟨m_M.th ho hR hV rfl rfl rfl rfl rfl rfl rfl, hM⟩ hL (Nat.le_refl _) (Nat.le_refl _) d_Mo_delete_72
set_option maxHeartbeats 4000000 in
set_option maxRecDepth 100000 in
theorem c_Mo_deleteT3 (l : Launch) {D : va_G} {A : Nat → ClassId} {H0 : Heap} {b : Nat} {th : Int32} {S : m_S} (h : m_M D A b th S H0) {x y : Int32} (hok : g_ok x y) {i : Nat} (hg : g_find S.2.2.1 (x, y, S.2.1) = some i) (hge : 200 ≤ S.2.2.2.2.1.length) : Met l y_Mo_delete w_Mo_delete { frames := 4, cells := 0, slots := 0, locals := 96 } (x_Pc D A [.ref b, .int x, .int y] H0) (x_Q none (fun H1 => m_M D A b 3 S H1 ∧ m_K b H0 H1)) 0 0 (m_fq b) := by
  refine Met.ofW (cc := prog_10_method_17_code) (maxL := 4) (ret := none) (by decide) rfl ?_
  intro p e s m args below meth c s₁ B hml hv
  obtain ⟨rfl, hH, hK, hN⟩ := hv
  obtain ⟨hx, hb, hr, htb, hown, hlocks⟩ := x_start (wd := Cond.code y_Mo_delete prog_10_method_17_code 4 none) B
  have hl := lv_entry ([.ref b, .int x, .int y]) (n := 4) (Nat.le_of_ble_eq_true rfl)
  rw [lg_entry_eq]
  generalize (lg_sl ([.ref b, .int x, .int y]) ++ List.replicate (4 - (lg_sl ([.ref b, .int x, .int y])).length) Slot.unset).toArray = ls at hl ⊢
  have hl : lv_has ls 4 [(0, .ref b), (1, .int x), (2, .int y)] := hl
  rw [hH]
  obtain ⟨G, ho, hR, hV⟩ := h
  obtain ⟨w1, w2, ⟨w3, w4⟩, ⟨w5, w6⟩, ⟨w7, w8⟩, w9, w10⟩ := id hV
  have hM : m_K b H0 H0 := m_K.refl
  have hL : ∀ q ∈ ([] : List Loc), m_fq b q.base := fun q hq => by cases hq
  refine lv_aload_n hx hb d_Mo_delete_0 rfl (lv_at hl 0 rfl) ?_
  refine lv_iload_n hx hb d_Mo_delete_1 rfl (lv_at hl 1 rfl) ?_
  refine lv_iload_n hx hb d_Mo_delete_2 rfl (lv_at hl 2 rfl) ?_
  refine x_callP (va_runS (As := [.int x, .int y]) (rest := [.ref b]) ⟨hx, hb, hml, hown, htb⟩ (c_Mo_isName l x y) (x_cS 2 htb mw_554 mw_6 mw_556 mw_555 rfl rfl (by decide +kernel) ⟨Nat.le_of_ble_eq_true rfl, Nat.le_of_ble_eq_true rfl⟩) (x_preS hK hN) rfl rfl hl.1 rfl (lv_room (Nat.le_of_ble_eq_true rfl)) d_Mo_delete_3 ⟨Nat.le_of_ble_eq_true rfl, Nat.le_of_ble_eq_true rfl⟩) ?_
  refine W.eq (g2 := F0 m 6 ls [.int (g_okv x y), .ref b]) rfl ?_
  refine x_top (y := 1) (g_okv1 hok) ?_
  refine lv_if_ne (tgt := 13) hx hb d_Mo_delete_6 (by decide) (fun _ => ?_) (fun c9 => absurd c9 (by decide))
  refine lv_aload_n hx hb d_Mo_delete_13 rfl (lv_at hl 0 rfl) ?_
  refine lv_iload_n hx hb d_Mo_delete_14 rfl (lv_at hl 1 rfl) ?_
  refine lv_iload_n hx hb d_Mo_delete_15 rfl (lv_at hl 2 rfl) ?_
  refine x_callP (va_runV (As := [.int x, .int y]) (rest := [.ref b]) ⟨hx, hb, hml, hown, htb⟩ (c_Mo_findHere l ho hR x y w4 w3 w2.1 w2.2.1 w2.2.2) (x_cV 2 htb mw_550 mw_6 mw_553 mw_552 ms_8 rfl rfl (by decide +kernel) ⟨Nat.le_of_ble_eq_true rfl, Nat.le_of_ble_eq_true rfl⟩) (x_preV hK hN ho rfl) rfl rfl hl.1 rfl (lv_room (Nat.le_of_ble_eq_true rfl)) d_Mo_delete_16 ⟨Nat.le_of_ble_eq_true rfl, Nat.le_of_ble_eq_true rfl⟩) ?_
  refine W.eq (g2 := F0 m 19 ls [.int (g_ixv (g_find S.2.2.1 (x, y, S.2.1))), .ref b]) rfl ?_
  refine x_top (y := nI i) (congrArg g_ixv hg) ?_
  refine lv_iconst (v := (-1)) hx hb d_Mo_delete_19 (by decide) ?_
  refine lv_icmp_ne (tgt := 27) hx hb d_Mo_delete_20 (by decide) (fun _ => ?_) (fun c9 => absurd c9 (m_nm1 (m_lt w4 i hg)))
  refine lv_aload_n hx hb d_Mo_delete_27 rfl (lv_at hl 0 rfl) ?_
  refine x_get (ci := 8) (T := T_Mo) hx hb htb u_Mo hown hK ho rfl 13 (by decide) (htb _ mw_476) (fun _ h9 => h9) (v := .int (nI S.2.2.2.2.1.length)) rfl d_Mo_delete_28 ?_
  refine lv_sipush (v := 200) hx hb d_Mo_delete_31 (by decide) ?_
  refine lv_icmp_ne (tgt := 41) hx hb d_Mo_delete_34 (by decide) (fun c9 => absurd (by rw [show S.2.2.2.2.1.length = 200 by omega]; rfl) c9) (fun _ => ?_)
  refine lv_iconst (v := 3) hx hb d_Mo_delete_37 (by decide) ?_
  refine lv_goto (tgt := 42) hx hb d_Mo_delete_38 (by decide) ?_
  refine x_put (F := m_fq b) (ci := 8) (v := .int 3) (ty := .int) (T := T_Mo) hx hb htb u_Mo t_Mo t_Mo_ok n_Mo hown hK ho hL ⟨Nat.le_refl _, Nat.le_add_right _ _⟩ rfl 0 (by decide) (htb _ mw_463) (fun _ h9 => h9) rfl (by decide +kernel) rfl rfl (Nat.le_of_ble_eq_true rfl) d_Mo_delete_42 (fun Ht locs hf5 hc6 hL => ?_)
  have hf5 : va_at D x_cl (b, .inr (8, [.int 3, .ref (b + 1), .ref (b + 2), .int (nI S.1.length), .int (nI S.2.1.length), .ref (b + 3), .ref (b + 4), .ref (b + 5), .ref (b + 6), .ref (b + 7), .ref (b + 8), .int (nI S.2.2.1.length), .int (nI S.2.2.2.1.length), .int (nI S.2.2.2.2.1.length), .int (nI S.2.2.2.2.2.1), .ref (b + 9), .ref (b + 10), .ref (b + 11), .int (nI S.2.2.2.2.2.2.length), .ref (b + 12), .ref (b + 13), .ref (b + 14), .ref (b + 15)])) Ht := hf5
  have ho : m_O D b 3 (nI S.1.length) (nI S.2.1.length) (nI S.2.2.1.length) (nI S.2.2.2.1.length) (nI S.2.2.2.2.1.length) (nI S.2.2.2.2.2.1) (nI S.2.2.2.2.2.2.length) Ht := hf5
  have hR := hR.but0 hc6
  have hM := hM.trans (m_K.but0 hc6)
  refine lv_aload_n hx hb d_Mo_delete_45 rfl (lv_at hl 0 rfl) ?_
  refine x_get (ci := 8) (T := T_Mo) hx hb htb u_Mo hown hK ho rfl 0 (by decide) (htb _ mw_463) (fun _ h9 => h9) (v := .int 3) rfl d_Mo_delete_46 ?_
  refine lv_if_ne (tgt := 72) hx hb d_Mo_delete_49 (by decide) (fun _ => ?_) (fun c9 => absurd c9 (by decide))
  exact x_vret hx hb hr hlocks ⟨m_M.th ho hR hV rfl rfl rfl rfl rfl rfl rfl, hM⟩ hL (Nat.le_refl _) (Nat.le_refl _) d_Mo_delete_72
set_option maxHeartbeats 4000000 in
set_option maxRecDepth 100000 in
theorem c_Mo_delete (l : Launch) {D : va_G} {A : Nat → ClassId} {H0 : Heap} {b : Nat} {th : Int32} {S : m_S} (h : m_M D A b th S H0) {x y : Int32} (hok : g_ok x y) {i : Nat} (hg : g_find S.2.2.1 (x, y, S.2.1) = some i) (hlt : S.2.2.2.2.1.length < 200) : Met l y_Mo_delete w_Mo_delete { frames := 4, cells := 0, slots := 0, locals := 96 } (x_Pc D A [.ref b, .int x, .int y] H0) (x_Q none (fun H1 => m_M D A b 0 (m_push S S.1 (2, 0, 0, ((x, y, S.2.1), []))) H1 ∧ m_K b H0 H1)) 0 0 (m_fq b) := by
  refine Met.ofW (cc := prog_10_method_17_code) (maxL := 4) (ret := none) (by decide) rfl ?_
  intro p e s m args below meth c s₁ B hml hv
  obtain ⟨rfl, hH, hK, hN⟩ := hv
  obtain ⟨hx, hb, hr, htb, hown, hlocks⟩ := x_start (wd := Cond.code y_Mo_delete prog_10_method_17_code 4 none) B
  have hl := lv_entry ([.ref b, .int x, .int y]) (n := 4) (Nat.le_of_ble_eq_true rfl)
  rw [lg_entry_eq]
  generalize (lg_sl ([.ref b, .int x, .int y]) ++ List.replicate (4 - (lg_sl ([.ref b, .int x, .int y])).length) Slot.unset).toArray = ls at hl ⊢
  have hl : lv_has ls 4 [(0, .ref b), (1, .int x), (2, .int y)] := hl
  rw [hH]
  obtain ⟨G, ho, hR, hV⟩ := h
  obtain ⟨w1, w2, ⟨w3, w4⟩, ⟨w5, w6⟩, ⟨w7, w8⟩, w9, w10⟩ := id hV
  have hM : m_K b H0 H0 := m_K.refl
  have hL : ∀ q ∈ ([] : List Loc), m_fq b q.base := fun q hq => by cases hq
  refine lv_aload_n hx hb d_Mo_delete_0 rfl (lv_at hl 0 rfl) ?_
  refine lv_iload_n hx hb d_Mo_delete_1 rfl (lv_at hl 1 rfl) ?_
  refine lv_iload_n hx hb d_Mo_delete_2 rfl (lv_at hl 2 rfl) ?_
  refine x_callP (va_runS (As := [.int x, .int y]) (rest := [.ref b]) ⟨hx, hb, hml, hown, htb⟩ (c_Mo_isName l x y) (x_cS 2 htb mw_554 mw_6 mw_556 mw_555 rfl rfl (by decide +kernel) ⟨Nat.le_of_ble_eq_true rfl, Nat.le_of_ble_eq_true rfl⟩) (x_preS hK hN) rfl rfl hl.1 rfl (lv_room (Nat.le_of_ble_eq_true rfl)) d_Mo_delete_3 ⟨Nat.le_of_ble_eq_true rfl, Nat.le_of_ble_eq_true rfl⟩) ?_
  refine W.eq (g2 := F0 m 6 ls [.int (g_okv x y), .ref b]) rfl ?_
  refine x_top (y := 1) (g_okv1 hok) ?_
  refine lv_if_ne (tgt := 13) hx hb d_Mo_delete_6 (by decide) (fun _ => ?_) (fun c9 => absurd c9 (by decide))
  refine lv_aload_n hx hb d_Mo_delete_13 rfl (lv_at hl 0 rfl) ?_
  refine lv_iload_n hx hb d_Mo_delete_14 rfl (lv_at hl 1 rfl) ?_
  refine lv_iload_n hx hb d_Mo_delete_15 rfl (lv_at hl 2 rfl) ?_
  refine x_callP (va_runV (As := [.int x, .int y]) (rest := [.ref b]) ⟨hx, hb, hml, hown, htb⟩ (c_Mo_findHere l ho hR x y w4 w3 w2.1 w2.2.1 w2.2.2) (x_cV 2 htb mw_550 mw_6 mw_553 mw_552 ms_8 rfl rfl (by decide +kernel) ⟨Nat.le_of_ble_eq_true rfl, Nat.le_of_ble_eq_true rfl⟩) (x_preV hK hN ho rfl) rfl rfl hl.1 rfl (lv_room (Nat.le_of_ble_eq_true rfl)) d_Mo_delete_16 ⟨Nat.le_of_ble_eq_true rfl, Nat.le_of_ble_eq_true rfl⟩) ?_
  refine W.eq (g2 := F0 m 19 ls [.int (g_ixv (g_find S.2.2.1 (x, y, S.2.1))), .ref b]) rfl ?_
  refine x_top (y := nI i) (congrArg g_ixv hg) ?_
  refine lv_iconst (v := (-1)) hx hb d_Mo_delete_19 (by decide) ?_
  refine lv_icmp_ne (tgt := 27) hx hb d_Mo_delete_20 (by decide) (fun _ => ?_) (fun c9 => absurd c9 (m_nm1 (m_lt w4 i hg)))
  refine lv_aload_n hx hb d_Mo_delete_27 rfl (lv_at hl 0 rfl) ?_
  refine x_get (ci := 8) (T := T_Mo) hx hb htb u_Mo hown hK ho rfl 13 (by decide) (htb _ mw_476) (fun _ h9 => h9) (v := .int (nI S.2.2.2.2.1.length)) rfl d_Mo_delete_28 ?_
  refine lv_sipush (v := 200) hx hb d_Mo_delete_31 (by decide) ?_
  refine lv_icmp_ne (tgt := 41) hx hb d_Mo_delete_34 (by decide) (fun _ => ?_) (fun c9 => absurd c9 (fun q => absurd ((nI_eq (b := 200) (by omega) (by decide)).mp q) (by omega)))
  refine lv_iconst (v := 0) hx hb d_Mo_delete_41 (by decide) ?_
  refine x_put (F := m_fq b) (ci := 8) (v := .int 0) (ty := .int) (T := T_Mo) hx hb htb u_Mo t_Mo t_Mo_ok n_Mo hown hK ho hL ⟨Nat.le_refl _, Nat.le_add_right _ _⟩ rfl 0 (by decide) (htb _ mw_463) (fun _ h9 => h9) rfl (by decide +kernel) rfl rfl (Nat.le_of_ble_eq_true rfl) d_Mo_delete_42 (fun Ht locs hf7 hc8 hL => ?_)
  have hf7 : va_at D x_cl (b, .inr (8, [.int 0, .ref (b + 1), .ref (b + 2), .int (nI S.1.length), .int (nI S.2.1.length), .ref (b + 3), .ref (b + 4), .ref (b + 5), .ref (b + 6), .ref (b + 7), .ref (b + 8), .int (nI S.2.2.1.length), .int (nI S.2.2.2.1.length), .int (nI S.2.2.2.2.1.length), .int (nI S.2.2.2.2.2.1), .ref (b + 9), .ref (b + 10), .ref (b + 11), .int (nI S.2.2.2.2.2.2.length), .ref (b + 12), .ref (b + 13), .ref (b + 14), .ref (b + 15)])) Ht := hf7
  have ho : m_O D b 0 (nI S.1.length) (nI S.2.1.length) (nI S.2.2.1.length) (nI S.2.2.2.1.length) (nI S.2.2.2.2.1.length) (nI S.2.2.2.2.2.1) (nI S.2.2.2.2.2.2.length) Ht := hf7
  have hR := hR.but0 hc8
  have hM := hM.trans (m_K.but0 hc8)
  refine lv_aload_n hx hb d_Mo_delete_45 rfl (lv_at hl 0 rfl) ?_
  refine x_get (ci := 8) (T := T_Mo) hx hb htb u_Mo hown hK ho rfl 0 (by decide) (htb _ mw_463) (fun _ h9 => h9) (v := .int 0) rfl d_Mo_delete_46 ?_
  refine lv_if_ne (tgt := 72) hx hb d_Mo_delete_49 (by decide) (fun c9 => absurd rfl c9) (fun _ => ?_)
  refine lv_aload_n hx hb d_Mo_delete_52 rfl (lv_at hl 0 rfl) ?_
  refine x_callP (va_runV (As := []) (rest := []) ⟨hx, hb, hml, hown, htb⟩ (c_Mo_entry l ho hR hlt) (x_cV 0 htb mw_557 mw_6 mw_560 mw_559 ms_9 rfl rfl (by decide +kernel) ⟨Nat.le_of_ble_eq_true rfl, Nat.le_of_ble_eq_true rfl⟩) (x_preV hK hN ho rfl) rfl rfl hl.1 rfl (lv_room (Nat.le_of_ble_eq_true rfl)) d_Mo_delete_53 ⟨Nat.le_of_ble_eq_true rfl, Nat.le_of_ble_eq_true rfl⟩) ?_
  refine W.eq (g2 := F0 m 56 ls [.int (nI (120 + S.2.2.2.2.1.length))]) rfl ?_
  refine lv_istore_n (lv' := [(3, .int (nI (120 + S.2.2.2.2.1.length))), (0, .ref b), (1, .int x), (2, .int y)]) hx hb d_Mo_delete_56 rfl hl (by decide) rfl (fun ls hl => ?_)
  refine lv_aload_n hx hb d_Mo_delete_57 rfl (lv_at hl 1 rfl) ?_
  refine lv_iload_n hx hb d_Mo_delete_58 rfl (lv_at hl 0 rfl) ?_
  refine lv_iload_n hx hb d_Mo_delete_59 rfl (lv_at hl 2 rfl) ?_
  refine lv_iload_n hx hb d_Mo_delete_60 rfl (lv_at hl 3 rfl) ?_
  refine x_call (F := m_fq b) (va_runV (As := [.int (nI (120 + S.2.2.2.2.1.length)), .int x, .int y]) (rest := []) ⟨hx, hb, hml, hown, htb⟩ (c_Mo_name l ho hR (j := 120 + S.2.2.2.2.1.length) x y (by omega) w2.1 w2.2.1 w2.2.2) (x_cV 3 htb mw_561 mw_6 mw_564 mw_563 ms_10 rfl rfl (by decide +kernel) ⟨Nat.le_of_ble_eq_true rfl, Nat.le_of_ble_eq_true rfl⟩) (x_preV hK hN ho rfl) rfl rfl hl.1 rfl (lv_room (Nat.le_of_ble_eq_true rfl)) d_Mo_delete_61 ⟨Nat.le_of_ble_eq_true rfl, Nat.le_of_ble_eq_true rfl⟩) hL (fun q hq => hq) (fun H2 locs hP hL => ?_)
  refine W.eq (g2 := F0 m 64 ls []) rfl ?_
  obtain ⟨G1, ho, hR, q3, q4, q5⟩ := hP
  have hM := hM.trans q3
  refine lv_aload_n hx hb d_Mo_delete_64 rfl (lv_at hl 1 rfl) ?_
  refine lv_iconst (v := 2) hx hb d_Mo_delete_65 (by decide) ?_
  refine lv_iload_n hx hb d_Mo_delete_66 rfl (lv_at hl 0 rfl) ?_
  refine lv_iconst (v := 0) hx hb d_Mo_delete_67 (by decide) ?_
  refine lv_iconst (v := 0) hx hb d_Mo_delete_68 (by decide) ?_
  have hmo : m_ok S.2.2.1 (2, 0, 0, ((x, y, S.2.1), [])) := Or.inr ⟨i, hg⟩
  refine x_call (F := m_fq b) (va_runV (As := [.int 2, .int (nI (120 + S.2.2.2.2.1.length)), .int 0, .int 0]) (rest := []) ⟨hx, hb, hml, hown, htb⟩ (c_Mo_add l ho hR (o := (2, 0, 0, ((x, y, S.2.1), []))) _ w4 (q5.L (Or.inr (by omega)) w3) hlt q4 hmo) (x_cV 4 htb mw_565 mw_6 mw_568 mw_567 ms_11 rfl rfl (by decide +kernel) ⟨Nat.le_of_ble_eq_true rfl, Nat.le_of_ble_eq_true rfl⟩) (x_preV hK hN ho rfl) rfl rfl hl.1 rfl (lv_room (Nat.le_of_ble_eq_true rfl)) d_Mo_delete_69 ⟨Nat.le_of_ble_eq_true rfl, Nat.le_of_ble_eq_true rfl⟩) hL (fun q hq => hq) (fun H3 locs hP hL => ?_)
  refine W.eq (g2 := F0 m 72 ls []) rfl ?_
  obtain ⟨G2, ho, hR, q6, q7, q8, q9⟩ := hP
  exact x_vret hx hb hr hlocks ⟨m_M.th ho hR (hV.push hlt (Or.inr rfl) q5 q9 q8 q7 (m_act_len hmo w4)) rfl rfl rfl rfl (by show _ = nI (S.2.2.2.2.1 ++ [(2, 0, 0, ((x, y, S.2.1), []))]).length; rw [List.length_append]; rfl) rfl rfl, hM.trans q6⟩ hL (Nat.le_refl _) (Nat.le_refl _) d_Mo_delete_72
set_option maxHeartbeats 4000000 in
set_option maxRecDepth 100000 in
theorem c_Mo_renameT1a (l : Launch) {D : va_G} {A : Nat → ClassId} {H0 : Heap} {b : Nat} {th : Int32} {S : m_S} (h : m_M D A b th S H0) {x y x2 y2 : Int32} (hok : ¬ g_ok x y) : Met l y_Mo_rename w_Mo_rename { frames := 4, cells := 0, slots := 0, locals := 96 } (x_Pc D A [.ref b, .int x, .int y, .int x2, .int y2] H0) (x_Q none (fun H1 => m_M D A b 1 S H1 ∧ m_K b H0 H1)) 0 0 (m_fq b) := by
  refine Met.ofW (cc := prog_10_method_16_code) (maxL := 7) (ret := none) (by decide) rfl ?_
  intro p e s m args below meth c s₁ B hml hv
  obtain ⟨rfl, hH, hK, hN⟩ := hv
  obtain ⟨hx, hb, hr, htb, hown, hlocks⟩ := x_start (wd := Cond.code y_Mo_rename prog_10_method_16_code 7 none) B
  have hl := lv_entry ([.ref b, .int x, .int y, .int x2, .int y2]) (n := 7) (Nat.le_of_ble_eq_true rfl)
  rw [lg_entry_eq]
  generalize (lg_sl ([.ref b, .int x, .int y, .int x2, .int y2]) ++ List.replicate (7 - (lg_sl ([.ref b, .int x, .int y, .int x2, .int y2])).length) Slot.unset).toArray = ls at hl ⊢
  have hl : lv_has ls 7 [(0, .ref b), (1, .int x), (2, .int y), (3, .int x2), (4, .int y2)] := hl
  rw [hH]
  obtain ⟨G, ho, hR, hV⟩ := h
  obtain ⟨w1, w2, ⟨w3, w4⟩, ⟨w5, w6⟩, ⟨w7, w8⟩, w9, w10⟩ := id hV
  have hM : m_K b H0 H0 := m_K.refl
  have hL : ∀ q ∈ ([] : List Loc), m_fq b q.base := fun q hq => by cases hq
  refine lv_iload_n hx hb d_Mo_rename_0 rfl (lv_at hl 1 rfl) ?_
  refine lv_iload_n hx hb d_Mo_rename_1 rfl (lv_at hl 2 rfl) ?_
  refine x_callP (va_runS (As := [.int x, .int y]) (rest := []) ⟨hx, hb, hml, hown, htb⟩ (c_Mo_isName l x y) (x_cS 2 htb mw_554 mw_6 mw_556 mw_555 rfl rfl (by decide +kernel) ⟨Nat.le_of_ble_eq_true rfl, Nat.le_of_ble_eq_true rfl⟩) (x_preS hK hN) rfl rfl hl.1 rfl (lv_room (Nat.le_of_ble_eq_true rfl)) d_Mo_rename_2 ⟨Nat.le_of_ble_eq_true rfl, Nat.le_of_ble_eq_true rfl⟩) ?_
  refine W.eq (g2 := F0 m 5 ls [.int (g_okv x y)]) rfl ?_
  refine x_top (y := 0) (g_okv0 hok) ?_
  refine lv_if_eq (tgt := 21) hx hb d_Mo_rename_5 (by decide) (fun _ => ?_) (fun c9 => absurd rfl c9)
  refine lv_iconst (v := 0) hx hb d_Mo_rename_21 (by decide) ?_
  refine lv_istore (lv' := [(5, .int 0), (0, .ref b), (1, .int x), (2, .int y), (3, .int x2), (4, .int y2)]) hx hb d_Mo_rename_22 hl (by decide) rfl (fun ls hl => ?_)
  refine lv_aload_n hx hb d_Mo_rename_24 rfl (lv_at hl 1 rfl) ?_
  refine lv_iload hx hb d_Mo_rename_25 (lv_at hl 0 rfl) ?_
  refine lv_if_ne (tgt := 34) hx hb d_Mo_rename_27 (by decide) (fun c9 => absurd rfl c9) (fun _ => ?_)
  refine lv_iconst (v := 1) hx hb d_Mo_rename_30 (by decide) ?_
  refine lv_goto (tgt := 63) hx hb d_Mo_rename_31 (by decide) ?_
  refine x_put (F := m_fq b) (ci := 8) (v := .int 1) (ty := .int) (T := T_Mo) hx hb htb u_Mo t_Mo t_Mo_ok n_Mo hown hK ho hL ⟨Nat.le_refl _, Nat.le_add_right _ _⟩ rfl 0 (by decide) (htb _ mw_463) (fun _ h9 => h9) rfl (by decide +kernel) rfl rfl (Nat.le_of_ble_eq_true rfl) d_Mo_rename_63 (fun Ht locs hf9 hc10 hL => ?_)
  have hf9 : va_at D x_cl (b, .inr (8, [.int 1, .ref (b + 1), .ref (b + 2), .int (nI S.1.length), .int (nI S.2.1.length), .ref (b + 3), .ref (b + 4), .ref (b + 5), .ref (b + 6), .ref (b + 7), .ref (b + 8), .int (nI S.2.2.1.length), .int (nI S.2.2.2.1.length), .int (nI S.2.2.2.2.1.length), .int (nI S.2.2.2.2.2.1), .ref (b + 9), .ref (b + 10), .ref (b + 11), .int (nI S.2.2.2.2.2.2.length), .ref (b + 12), .ref (b + 13), .ref (b + 14), .ref (b + 15)])) Ht := hf9
  have ho : m_O D b 1 (nI S.1.length) (nI S.2.1.length) (nI S.2.2.1.length) (nI S.2.2.2.1.length) (nI S.2.2.2.2.1.length) (nI S.2.2.2.2.2.1) (nI S.2.2.2.2.2.2.length) Ht := hf9
  have hR := hR.but0 hc10
  have hM := hM.trans (m_K.but0 hc10)
  refine lv_aload_n hx hb d_Mo_rename_66 rfl (lv_at hl 1 rfl) ?_
  refine x_get (ci := 8) (T := T_Mo) hx hb htb u_Mo hown hK ho rfl 0 (by decide) (htb _ mw_463) (fun _ h9 => h9) (v := .int 1) rfl d_Mo_rename_67 ?_
  refine lv_if_ne (tgt := 97) hx hb d_Mo_rename_70 (by decide) (fun _ => ?_) (fun c9 => absurd c9 (by decide))
  exact x_vret hx hb hr hlocks ⟨m_M.th ho hR hV rfl rfl rfl rfl rfl rfl rfl, hM⟩ hL (Nat.le_refl _) (Nat.le_refl _) d_Mo_rename_97
set_option maxHeartbeats 4000000 in
set_option maxRecDepth 100000 in
theorem c_Mo_renameT1b (l : Launch) {D : va_G} {A : Nat → ClassId} {H0 : Heap} {b : Nat} {th : Int32} {S : m_S} (h : m_M D A b th S H0) {x y x2 y2 : Int32} (hok : g_ok x y) (hok2 : ¬ g_ok x2 y2) : Met l y_Mo_rename w_Mo_rename { frames := 4, cells := 0, slots := 0, locals := 96 } (x_Pc D A [.ref b, .int x, .int y, .int x2, .int y2] H0) (x_Q none (fun H1 => m_M D A b 1 S H1 ∧ m_K b H0 H1)) 0 0 (m_fq b) := by
  refine Met.ofW (cc := prog_10_method_16_code) (maxL := 7) (ret := none) (by decide) rfl ?_
  intro p e s m args below meth c s₁ B hml hv
  obtain ⟨rfl, hH, hK, hN⟩ := hv
  obtain ⟨hx, hb, hr, htb, hown, hlocks⟩ := x_start (wd := Cond.code y_Mo_rename prog_10_method_16_code 7 none) B
  have hl := lv_entry ([.ref b, .int x, .int y, .int x2, .int y2]) (n := 7) (Nat.le_of_ble_eq_true rfl)
  rw [lg_entry_eq]
  generalize (lg_sl ([.ref b, .int x, .int y, .int x2, .int y2]) ++ List.replicate (7 - (lg_sl ([.ref b, .int x, .int y, .int x2, .int y2])).length) Slot.unset).toArray = ls at hl ⊢
  have hl : lv_has ls 7 [(0, .ref b), (1, .int x), (2, .int y), (3, .int x2), (4, .int y2)] := hl
  rw [hH]
  obtain ⟨G, ho, hR, hV⟩ := h
  obtain ⟨w1, w2, ⟨w3, w4⟩, ⟨w5, w6⟩, ⟨w7, w8⟩, w9, w10⟩ := id hV
  have hM : m_K b H0 H0 := m_K.refl
  have hL : ∀ q ∈ ([] : List Loc), m_fq b q.base := fun q hq => by cases hq
  refine lv_iload_n hx hb d_Mo_rename_0 rfl (lv_at hl 1 rfl) ?_
  refine lv_iload_n hx hb d_Mo_rename_1 rfl (lv_at hl 2 rfl) ?_
  refine x_callP (va_runS (As := [.int x, .int y]) (rest := []) ⟨hx, hb, hml, hown, htb⟩ (c_Mo_isName l x y) (x_cS 2 htb mw_554 mw_6 mw_556 mw_555 rfl rfl (by decide +kernel) ⟨Nat.le_of_ble_eq_true rfl, Nat.le_of_ble_eq_true rfl⟩) (x_preS hK hN) rfl rfl hl.1 rfl (lv_room (Nat.le_of_ble_eq_true rfl)) d_Mo_rename_2 ⟨Nat.le_of_ble_eq_true rfl, Nat.le_of_ble_eq_true rfl⟩) ?_
  refine W.eq (g2 := F0 m 5 ls [.int (g_okv x y)]) rfl ?_
  refine x_top (y := 1) (g_okv1 hok) ?_
  refine lv_if_eq (tgt := 21) hx hb d_Mo_rename_5 (by decide) (fun c9 => absurd c9 (by decide)) (fun _ => ?_)
  refine lv_iload_n hx hb d_Mo_rename_8 rfl (lv_at hl 3 rfl) ?_
  refine lv_iload hx hb d_Mo_rename_9 (lv_at hl 4 rfl) ?_
  refine x_callP (va_runS (As := [.int x2, .int y2]) (rest := []) ⟨hx, hb, hml, hown, htb⟩ (c_Mo_isName l x2 y2) (x_cS 2 htb mw_554 mw_6 mw_556 mw_555 rfl rfl (by decide +kernel) ⟨Nat.le_of_ble_eq_true rfl, Nat.le_of_ble_eq_true rfl⟩) (x_preS hK hN) rfl rfl hl.1 rfl (lv_room (Nat.le_of_ble_eq_true rfl)) d_Mo_rename_11 ⟨Nat.le_of_ble_eq_true rfl, Nat.le_of_ble_eq_true rfl⟩) ?_
  refine W.eq (g2 := F0 m 14 ls [.int (g_okv x2 y2)]) rfl ?_
  refine x_top (y := 0) (g_okv0 hok2) ?_
  refine lv_if_eq (tgt := 21) hx hb d_Mo_rename_14 (by decide) (fun _ => ?_) (fun c9 => absurd rfl c9)
  refine lv_iconst (v := 0) hx hb d_Mo_rename_21 (by decide) ?_
  refine lv_istore (lv' := [(5, .int 0), (0, .ref b), (1, .int x), (2, .int y), (3, .int x2), (4, .int y2)]) hx hb d_Mo_rename_22 hl (by decide) rfl (fun ls hl => ?_)
  refine lv_aload_n hx hb d_Mo_rename_24 rfl (lv_at hl 1 rfl) ?_
  refine lv_iload hx hb d_Mo_rename_25 (lv_at hl 0 rfl) ?_
  refine lv_if_ne (tgt := 34) hx hb d_Mo_rename_27 (by decide) (fun c9 => absurd rfl c9) (fun _ => ?_)
  refine lv_iconst (v := 1) hx hb d_Mo_rename_30 (by decide) ?_
  refine lv_goto (tgt := 63) hx hb d_Mo_rename_31 (by decide) ?_
  refine x_put (F := m_fq b) (ci := 8) (v := .int 1) (ty := .int) (T := T_Mo) hx hb htb u_Mo t_Mo t_Mo_ok n_Mo hown hK ho hL ⟨Nat.le_refl _, Nat.le_add_right _ _⟩ rfl 0 (by decide) (htb _ mw_463) (fun _ h9 => h9) rfl (by decide +kernel) rfl rfl (Nat.le_of_ble_eq_true rfl) d_Mo_rename_63 (fun Ht locs hf11 hc12 hL => ?_)
  have hf11 : va_at D x_cl (b, .inr (8, [.int 1, .ref (b + 1), .ref (b + 2), .int (nI S.1.length), .int (nI S.2.1.length), .ref (b + 3), .ref (b + 4), .ref (b + 5), .ref (b + 6), .ref (b + 7), .ref (b + 8), .int (nI S.2.2.1.length), .int (nI S.2.2.2.1.length), .int (nI S.2.2.2.2.1.length), .int (nI S.2.2.2.2.2.1), .ref (b + 9), .ref (b + 10), .ref (b + 11), .int (nI S.2.2.2.2.2.2.length), .ref (b + 12), .ref (b + 13), .ref (b + 14), .ref (b + 15)])) Ht := hf11
  have ho : m_O D b 1 (nI S.1.length) (nI S.2.1.length) (nI S.2.2.1.length) (nI S.2.2.2.1.length) (nI S.2.2.2.2.1.length) (nI S.2.2.2.2.2.1) (nI S.2.2.2.2.2.2.length) Ht := hf11
  have hR := hR.but0 hc12
  have hM := hM.trans (m_K.but0 hc12)
  refine lv_aload_n hx hb d_Mo_rename_66 rfl (lv_at hl 1 rfl) ?_
  refine x_get (ci := 8) (T := T_Mo) hx hb htb u_Mo hown hK ho rfl 0 (by decide) (htb _ mw_463) (fun _ h9 => h9) (v := .int 1) rfl d_Mo_rename_67 ?_
  refine lv_if_ne (tgt := 97) hx hb d_Mo_rename_70 (by decide) (fun _ => ?_) (fun c9 => absurd c9 (by decide))
  exact x_vret hx hb hr hlocks ⟨m_M.th ho hR hV rfl rfl rfl rfl rfl rfl rfl, hM⟩ hL (Nat.le_refl _) (Nat.le_refl _) d_Mo_rename_97
set_option maxHeartbeats 4000000 in
set_option maxRecDepth 100000 in
theorem c_Mo_renameT2 (l : Launch) {D : va_G} {A : Nat → ClassId} {H0 : Heap} {b : Nat} {th : Int32} {S : m_S} (h : m_M D A b th S H0) {x y x2 y2 : Int32} (hok : g_ok x y) (hok2 : g_ok x2 y2) (hg : g_find S.2.2.1 (x, y, S.2.1) = none) : Met l y_Mo_rename w_Mo_rename { frames := 4, cells := 0, slots := 0, locals := 96 } (x_Pc D A [.ref b, .int x, .int y, .int x2, .int y2] H0) (x_Q none (fun H1 => m_M D A b 2 S H1 ∧ m_K b H0 H1)) 0 0 (m_fq b) := by
  refine Met.ofW (cc := prog_10_method_16_code) (maxL := 7) (ret := none) (by decide) rfl ?_
  intro p e s m args below meth c s₁ B hml hv
  obtain ⟨rfl, hH, hK, hN⟩ := hv
  obtain ⟨hx, hb, hr, htb, hown, hlocks⟩ := x_start (wd := Cond.code y_Mo_rename prog_10_method_16_code 7 none) B
  have hl := lv_entry ([.ref b, .int x, .int y, .int x2, .int y2]) (n := 7) (Nat.le_of_ble_eq_true rfl)
  rw [lg_entry_eq]
  generalize (lg_sl ([.ref b, .int x, .int y, .int x2, .int y2]) ++ List.replicate (7 - (lg_sl ([.ref b, .int x, .int y, .int x2, .int y2])).length) Slot.unset).toArray = ls at hl ⊢
  have hl : lv_has ls 7 [(0, .ref b), (1, .int x), (2, .int y), (3, .int x2), (4, .int y2)] := hl
  rw [hH]
  obtain ⟨G, ho, hR, hV⟩ := h
  obtain ⟨w1, w2, ⟨w3, w4⟩, ⟨w5, w6⟩, ⟨w7, w8⟩, w9, w10⟩ := id hV
  have hM : m_K b H0 H0 := m_K.refl
  have hL : ∀ q ∈ ([] : List Loc), m_fq b q.base := fun q hq => by cases hq
  refine lv_iload_n hx hb d_Mo_rename_0 rfl (lv_at hl 1 rfl) ?_
  refine lv_iload_n hx hb d_Mo_rename_1 rfl (lv_at hl 2 rfl) ?_
  refine x_callP (va_runS (As := [.int x, .int y]) (rest := []) ⟨hx, hb, hml, hown, htb⟩ (c_Mo_isName l x y) (x_cS 2 htb mw_554 mw_6 mw_556 mw_555 rfl rfl (by decide +kernel) ⟨Nat.le_of_ble_eq_true rfl, Nat.le_of_ble_eq_true rfl⟩) (x_preS hK hN) rfl rfl hl.1 rfl (lv_room (Nat.le_of_ble_eq_true rfl)) d_Mo_rename_2 ⟨Nat.le_of_ble_eq_true rfl, Nat.le_of_ble_eq_true rfl⟩) ?_
  refine W.eq (g2 := F0 m 5 ls [.int (g_okv x y)]) rfl ?_
  refine x_top (y := 1) (g_okv1 hok) ?_
  refine lv_if_eq (tgt := 21) hx hb d_Mo_rename_5 (by decide) (fun c9 => absurd c9 (by decide)) (fun _ => ?_)
  refine lv_iload_n hx hb d_Mo_rename_8 rfl (lv_at hl 3 rfl) ?_
  refine lv_iload hx hb d_Mo_rename_9 (lv_at hl 4 rfl) ?_
  refine x_callP (va_runS (As := [.int x2, .int y2]) (rest := []) ⟨hx, hb, hml, hown, htb⟩ (c_Mo_isName l x2 y2) (x_cS 2 htb mw_554 mw_6 mw_556 mw_555 rfl rfl (by decide +kernel) ⟨Nat.le_of_ble_eq_true rfl, Nat.le_of_ble_eq_true rfl⟩) (x_preS hK hN) rfl rfl hl.1 rfl (lv_room (Nat.le_of_ble_eq_true rfl)) d_Mo_rename_11 ⟨Nat.le_of_ble_eq_true rfl, Nat.le_of_ble_eq_true rfl⟩) ?_
  refine W.eq (g2 := F0 m 14 ls [.int (g_okv x2 y2)]) rfl ?_
  refine x_top (y := 1) (g_okv1 hok2) ?_
  refine lv_if_eq (tgt := 21) hx hb d_Mo_rename_14 (by decide) (fun c9 => absurd c9 (by decide)) (fun _ => ?_)
  refine lv_iconst (v := 1) hx hb d_Mo_rename_17 (by decide) ?_
  refine lv_goto (tgt := 22) hx hb d_Mo_rename_18 (by decide) ?_
  refine lv_istore (lv' := [(5, .int 1), (0, .ref b), (1, .int x), (2, .int y), (3, .int x2), (4, .int y2)]) hx hb d_Mo_rename_22 hl (by decide) rfl (fun ls hl => ?_)
  refine lv_aload_n hx hb d_Mo_rename_24 rfl (lv_at hl 1 rfl) ?_
  refine lv_iload hx hb d_Mo_rename_25 (lv_at hl 0 rfl) ?_
  refine lv_if_ne (tgt := 34) hx hb d_Mo_rename_27 (by decide) (fun _ => ?_) (fun c9 => absurd c9 (by decide))
  refine lv_aload_n hx hb d_Mo_rename_34 rfl (lv_at hl 1 rfl) ?_
  refine lv_iload_n hx hb d_Mo_rename_35 rfl (lv_at hl 2 rfl) ?_
  refine lv_iload_n hx hb d_Mo_rename_36 rfl (lv_at hl 3 rfl) ?_
  refine x_callP (va_runV (As := [.int x, .int y]) (rest := [.ref b]) ⟨hx, hb, hml, hown, htb⟩ (c_Mo_findHere l ho hR x y w4 w3 w2.1 w2.2.1 w2.2.2) (x_cV 2 htb mw_550 mw_6 mw_553 mw_552 ms_8 rfl rfl (by decide +kernel) ⟨Nat.le_of_ble_eq_true rfl, Nat.le_of_ble_eq_true rfl⟩) (x_preV hK hN ho rfl) rfl rfl hl.1 rfl (lv_room (Nat.le_of_ble_eq_true rfl)) d_Mo_rename_37 ⟨Nat.le_of_ble_eq_true rfl, Nat.le_of_ble_eq_true rfl⟩) ?_
  refine W.eq (g2 := F0 m 40 ls [.int (g_ixv (g_find S.2.2.1 (x, y, S.2.1))), .ref b]) rfl ?_
  refine x_top (y := (-1)) (congrArg g_ixv hg) ?_
  refine lv_iconst (v := (-1)) hx hb d_Mo_rename_40 (by decide) ?_
  refine lv_icmp_ne (tgt := 48) hx hb d_Mo_rename_41 (by decide) (fun c9 => absurd rfl c9) (fun _ => ?_)
  refine lv_iconst (v := 2) hx hb d_Mo_rename_44 (by decide) ?_
  refine lv_goto (tgt := 63) hx hb d_Mo_rename_45 (by decide) ?_
  refine x_put (F := m_fq b) (ci := 8) (v := .int 2) (ty := .int) (T := T_Mo) hx hb htb u_Mo t_Mo t_Mo_ok n_Mo hown hK ho hL ⟨Nat.le_refl _, Nat.le_add_right _ _⟩ rfl 0 (by decide) (htb _ mw_463) (fun _ h9 => h9) rfl (by decide +kernel) rfl rfl (Nat.le_of_ble_eq_true rfl) d_Mo_rename_63 (fun Ht locs hf13 hc14 hL => ?_)
  have hf13 : va_at D x_cl (b, .inr (8, [.int 2, .ref (b + 1), .ref (b + 2), .int (nI S.1.length), .int (nI S.2.1.length), .ref (b + 3), .ref (b + 4), .ref (b + 5), .ref (b + 6), .ref (b + 7), .ref (b + 8), .int (nI S.2.2.1.length), .int (nI S.2.2.2.1.length), .int (nI S.2.2.2.2.1.length), .int (nI S.2.2.2.2.2.1), .ref (b + 9), .ref (b + 10), .ref (b + 11), .int (nI S.2.2.2.2.2.2.length), .ref (b + 12), .ref (b + 13), .ref (b + 14), .ref (b + 15)])) Ht := hf13
  have ho : m_O D b 2 (nI S.1.length) (nI S.2.1.length) (nI S.2.2.1.length) (nI S.2.2.2.1.length) (nI S.2.2.2.2.1.length) (nI S.2.2.2.2.2.1) (nI S.2.2.2.2.2.2.length) Ht := hf13
  have hR := hR.but0 hc14
  have hM := hM.trans (m_K.but0 hc14)
  refine lv_aload_n hx hb d_Mo_rename_66 rfl (lv_at hl 1 rfl) ?_
  refine x_get (ci := 8) (T := T_Mo) hx hb htb u_Mo hown hK ho rfl 0 (by decide) (htb _ mw_463) (fun _ h9 => h9) (v := .int 2) rfl d_Mo_rename_67 ?_
  refine lv_if_ne (tgt := 97) hx hb d_Mo_rename_70 (by decide) (fun _ => ?_) (fun c9 => absurd c9 (by decide))
  exact x_vret hx hb hr hlocks ⟨m_M.th ho hR hV rfl rfl rfl rfl rfl rfl rfl, hM⟩ hL (Nat.le_refl _) (Nat.le_refl _) d_Mo_rename_97
set_option maxHeartbeats 4000000 in
set_option maxRecDepth 100000 in
theorem c_Mo_renameT3 (l : Launch) {D : va_G} {A : Nat → ClassId} {H0 : Heap} {b : Nat} {th : Int32} {S : m_S} (h : m_M D A b th S H0) {x y x2 y2 : Int32} (hok : g_ok x y) (hok2 : g_ok x2 y2) {i : Nat} (hg : g_find S.2.2.1 (x, y, S.2.1) = some i) (hge : 200 ≤ S.2.2.2.2.1.length) : Met l y_Mo_rename w_Mo_rename { frames := 4, cells := 0, slots := 0, locals := 96 } (x_Pc D A [.ref b, .int x, .int y, .int x2, .int y2] H0) (x_Q none (fun H1 => m_M D A b 3 S H1 ∧ m_K b H0 H1)) 0 0 (m_fq b) := by
  refine Met.ofW (cc := prog_10_method_16_code) (maxL := 7) (ret := none) (by decide) rfl ?_
  intro p e s m args below meth c s₁ B hml hv
  obtain ⟨rfl, hH, hK, hN⟩ := hv
  obtain ⟨hx, hb, hr, htb, hown, hlocks⟩ := x_start (wd := Cond.code y_Mo_rename prog_10_method_16_code 7 none) B
  have hl := lv_entry ([.ref b, .int x, .int y, .int x2, .int y2]) (n := 7) (Nat.le_of_ble_eq_true rfl)
  rw [lg_entry_eq]
  generalize (lg_sl ([.ref b, .int x, .int y, .int x2, .int y2]) ++ List.replicate (7 - (lg_sl ([.ref b, .int x, .int y, .int x2, .int y2])).length) Slot.unset).toArray = ls at hl ⊢
  have hl : lv_has ls 7 [(0, .ref b), (1, .int x), (2, .int y), (3, .int x2), (4, .int y2)] := hl
  rw [hH]
  obtain ⟨G, ho, hR, hV⟩ := h
  obtain ⟨w1, w2, ⟨w3, w4⟩, ⟨w5, w6⟩, ⟨w7, w8⟩, w9, w10⟩ := id hV
  have hM : m_K b H0 H0 := m_K.refl
  have hL : ∀ q ∈ ([] : List Loc), m_fq b q.base := fun q hq => by cases hq
  refine lv_iload_n hx hb d_Mo_rename_0 rfl (lv_at hl 1 rfl) ?_
  refine lv_iload_n hx hb d_Mo_rename_1 rfl (lv_at hl 2 rfl) ?_
  refine x_callP (va_runS (As := [.int x, .int y]) (rest := []) ⟨hx, hb, hml, hown, htb⟩ (c_Mo_isName l x y) (x_cS 2 htb mw_554 mw_6 mw_556 mw_555 rfl rfl (by decide +kernel) ⟨Nat.le_of_ble_eq_true rfl, Nat.le_of_ble_eq_true rfl⟩) (x_preS hK hN) rfl rfl hl.1 rfl (lv_room (Nat.le_of_ble_eq_true rfl)) d_Mo_rename_2 ⟨Nat.le_of_ble_eq_true rfl, Nat.le_of_ble_eq_true rfl⟩) ?_
  refine W.eq (g2 := F0 m 5 ls [.int (g_okv x y)]) rfl ?_
  refine x_top (y := 1) (g_okv1 hok) ?_
  refine lv_if_eq (tgt := 21) hx hb d_Mo_rename_5 (by decide) (fun c9 => absurd c9 (by decide)) (fun _ => ?_)
  refine lv_iload_n hx hb d_Mo_rename_8 rfl (lv_at hl 3 rfl) ?_
  refine lv_iload hx hb d_Mo_rename_9 (lv_at hl 4 rfl) ?_
  refine x_callP (va_runS (As := [.int x2, .int y2]) (rest := []) ⟨hx, hb, hml, hown, htb⟩ (c_Mo_isName l x2 y2) (x_cS 2 htb mw_554 mw_6 mw_556 mw_555 rfl rfl (by decide +kernel) ⟨Nat.le_of_ble_eq_true rfl, Nat.le_of_ble_eq_true rfl⟩) (x_preS hK hN) rfl rfl hl.1 rfl (lv_room (Nat.le_of_ble_eq_true rfl)) d_Mo_rename_11 ⟨Nat.le_of_ble_eq_true rfl, Nat.le_of_ble_eq_true rfl⟩) ?_
  refine W.eq (g2 := F0 m 14 ls [.int (g_okv x2 y2)]) rfl ?_
  refine x_top (y := 1) (g_okv1 hok2) ?_
  refine lv_if_eq (tgt := 21) hx hb d_Mo_rename_14 (by decide) (fun c9 => absurd c9 (by decide)) (fun _ => ?_)
  refine lv_iconst (v := 1) hx hb d_Mo_rename_17 (by decide) ?_
  refine lv_goto (tgt := 22) hx hb d_Mo_rename_18 (by decide) ?_
  refine lv_istore (lv' := [(5, .int 1), (0, .ref b), (1, .int x), (2, .int y), (3, .int x2), (4, .int y2)]) hx hb d_Mo_rename_22 hl (by decide) rfl (fun ls hl => ?_)
  refine lv_aload_n hx hb d_Mo_rename_24 rfl (lv_at hl 1 rfl) ?_
  refine lv_iload hx hb d_Mo_rename_25 (lv_at hl 0 rfl) ?_
  refine lv_if_ne (tgt := 34) hx hb d_Mo_rename_27 (by decide) (fun _ => ?_) (fun c9 => absurd c9 (by decide))
  refine lv_aload_n hx hb d_Mo_rename_34 rfl (lv_at hl 1 rfl) ?_
  refine lv_iload_n hx hb d_Mo_rename_35 rfl (lv_at hl 2 rfl) ?_
  refine lv_iload_n hx hb d_Mo_rename_36 rfl (lv_at hl 3 rfl) ?_
  refine x_callP (va_runV (As := [.int x, .int y]) (rest := [.ref b]) ⟨hx, hb, hml, hown, htb⟩ (c_Mo_findHere l ho hR x y w4 w3 w2.1 w2.2.1 w2.2.2) (x_cV 2 htb mw_550 mw_6 mw_553 mw_552 ms_8 rfl rfl (by decide +kernel) ⟨Nat.le_of_ble_eq_true rfl, Nat.le_of_ble_eq_true rfl⟩) (x_preV hK hN ho rfl) rfl rfl hl.1 rfl (lv_room (Nat.le_of_ble_eq_true rfl)) d_Mo_rename_37 ⟨Nat.le_of_ble_eq_true rfl, Nat.le_of_ble_eq_true rfl⟩) ?_
  refine W.eq (g2 := F0 m 40 ls [.int (g_ixv (g_find S.2.2.1 (x, y, S.2.1))), .ref b]) rfl ?_
  refine x_top (y := nI i) (congrArg g_ixv hg) ?_
  refine lv_iconst (v := (-1)) hx hb d_Mo_rename_40 (by decide) ?_
  refine lv_icmp_ne (tgt := 48) hx hb d_Mo_rename_41 (by decide) (fun _ => ?_) (fun c9 => absurd c9 (m_nm1 (m_lt w4 i hg)))
  refine lv_aload_n hx hb d_Mo_rename_48 rfl (lv_at hl 1 rfl) ?_
  refine x_get (ci := 8) (T := T_Mo) hx hb htb u_Mo hown hK ho rfl 13 (by decide) (htb _ mw_476) (fun _ h9 => h9) (v := .int (nI S.2.2.2.2.1.length)) rfl d_Mo_rename_49 ?_
  refine lv_sipush (v := 200) hx hb d_Mo_rename_52 (by decide) ?_
  refine lv_icmp_ne (tgt := 62) hx hb d_Mo_rename_55 (by decide) (fun c9 => absurd (by rw [show S.2.2.2.2.1.length = 200 by omega]; rfl) c9) (fun _ => ?_)
  refine lv_iconst (v := 3) hx hb d_Mo_rename_58 (by decide) ?_
  refine lv_goto (tgt := 63) hx hb d_Mo_rename_59 (by decide) ?_
  refine x_put (F := m_fq b) (ci := 8) (v := .int 3) (ty := .int) (T := T_Mo) hx hb htb u_Mo t_Mo t_Mo_ok n_Mo hown hK ho hL ⟨Nat.le_refl _, Nat.le_add_right _ _⟩ rfl 0 (by decide) (htb _ mw_463) (fun _ h9 => h9) rfl (by decide +kernel) rfl rfl (Nat.le_of_ble_eq_true rfl) d_Mo_rename_63 (fun Ht locs hf15 hc16 hL => ?_)
  have hf15 : va_at D x_cl (b, .inr (8, [.int 3, .ref (b + 1), .ref (b + 2), .int (nI S.1.length), .int (nI S.2.1.length), .ref (b + 3), .ref (b + 4), .ref (b + 5), .ref (b + 6), .ref (b + 7), .ref (b + 8), .int (nI S.2.2.1.length), .int (nI S.2.2.2.1.length), .int (nI S.2.2.2.2.1.length), .int (nI S.2.2.2.2.2.1), .ref (b + 9), .ref (b + 10), .ref (b + 11), .int (nI S.2.2.2.2.2.2.length), .ref (b + 12), .ref (b + 13), .ref (b + 14), .ref (b + 15)])) Ht := hf15
  have ho : m_O D b 3 (nI S.1.length) (nI S.2.1.length) (nI S.2.2.1.length) (nI S.2.2.2.1.length) (nI S.2.2.2.2.1.length) (nI S.2.2.2.2.2.1) (nI S.2.2.2.2.2.2.length) Ht := hf15
  have hR := hR.but0 hc16
  have hM := hM.trans (m_K.but0 hc16)
  refine lv_aload_n hx hb d_Mo_rename_66 rfl (lv_at hl 1 rfl) ?_
  refine x_get (ci := 8) (T := T_Mo) hx hb htb u_Mo hown hK ho rfl 0 (by decide) (htb _ mw_463) (fun _ h9 => h9) (v := .int 3) rfl d_Mo_rename_67 ?_
  refine lv_if_ne (tgt := 97) hx hb d_Mo_rename_70 (by decide) (fun _ => ?_) (fun c9 => absurd c9 (by decide))
  exact x_vret hx hb hr hlocks ⟨m_M.th ho hR hV rfl rfl rfl rfl rfl rfl rfl, hM⟩ hL (Nat.le_refl _) (Nat.le_refl _) d_Mo_rename_97
set_option maxHeartbeats 4000000 in
set_option maxRecDepth 100000 in
theorem c_Mo_rename (l : Launch) {D : va_G} {A : Nat → ClassId} {H0 : Heap} {b : Nat} {th : Int32} {S : m_S} (h : m_M D A b th S H0) {x y x2 y2 : Int32} (hok : g_ok x y) (hok2 : g_ok x2 y2) {i : Nat} (hg : g_find S.2.2.1 (x, y, S.2.1) = some i) (hlt : S.2.2.2.2.1.length < 200) : Met l y_Mo_rename w_Mo_rename { frames := 4, cells := 0, slots := 0, locals := 96 } (x_Pc D A [.ref b, .int x, .int y, .int x2, .int y2] H0) (x_Q none (fun H1 => m_M D A b 0 (m_push S S.1 (1, x2, y2, ((x, y, S.2.1), []))) H1 ∧ m_K b H0 H1)) 0 0 (m_fq b) := by
  refine Met.ofW (cc := prog_10_method_16_code) (maxL := 7) (ret := none) (by decide) rfl ?_
  intro p e s m args below meth c s₁ B hml hv
  obtain ⟨rfl, hH, hK, hN⟩ := hv
  obtain ⟨hx, hb, hr, htb, hown, hlocks⟩ := x_start (wd := Cond.code y_Mo_rename prog_10_method_16_code 7 none) B
  have hl := lv_entry ([.ref b, .int x, .int y, .int x2, .int y2]) (n := 7) (Nat.le_of_ble_eq_true rfl)
  rw [lg_entry_eq]
  generalize (lg_sl ([.ref b, .int x, .int y, .int x2, .int y2]) ++ List.replicate (7 - (lg_sl ([.ref b, .int x, .int y, .int x2, .int y2])).length) Slot.unset).toArray = ls at hl ⊢
  have hl : lv_has ls 7 [(0, .ref b), (1, .int x), (2, .int y), (3, .int x2), (4, .int y2)] := hl
  rw [hH]
  obtain ⟨G, ho, hR, hV⟩ := h
  obtain ⟨w1, w2, ⟨w3, w4⟩, ⟨w5, w6⟩, ⟨w7, w8⟩, w9, w10⟩ := id hV
  have hM : m_K b H0 H0 := m_K.refl
  have hL : ∀ q ∈ ([] : List Loc), m_fq b q.base := fun q hq => by cases hq
  refine lv_iload_n hx hb d_Mo_rename_0 rfl (lv_at hl 1 rfl) ?_
  refine lv_iload_n hx hb d_Mo_rename_1 rfl (lv_at hl 2 rfl) ?_
  refine x_callP (va_runS (As := [.int x, .int y]) (rest := []) ⟨hx, hb, hml, hown, htb⟩ (c_Mo_isName l x y) (x_cS 2 htb mw_554 mw_6 mw_556 mw_555 rfl rfl (by decide +kernel) ⟨Nat.le_of_ble_eq_true rfl, Nat.le_of_ble_eq_true rfl⟩) (x_preS hK hN) rfl rfl hl.1 rfl (lv_room (Nat.le_of_ble_eq_true rfl)) d_Mo_rename_2 ⟨Nat.le_of_ble_eq_true rfl, Nat.le_of_ble_eq_true rfl⟩) ?_
  refine W.eq (g2 := F0 m 5 ls [.int (g_okv x y)]) rfl ?_
  refine x_top (y := 1) (g_okv1 hok) ?_
  refine lv_if_eq (tgt := 21) hx hb d_Mo_rename_5 (by decide) (fun c9 => absurd c9 (by decide)) (fun _ => ?_)
  refine lv_iload_n hx hb d_Mo_rename_8 rfl (lv_at hl 3 rfl) ?_
  refine lv_iload hx hb d_Mo_rename_9 (lv_at hl 4 rfl) ?_
  refine x_callP (va_runS (As := [.int x2, .int y2]) (rest := []) ⟨hx, hb, hml, hown, htb⟩ (c_Mo_isName l x2 y2) (x_cS 2 htb mw_554 mw_6 mw_556 mw_555 rfl rfl (by decide +kernel) ⟨Nat.le_of_ble_eq_true rfl, Nat.le_of_ble_eq_true rfl⟩) (x_preS hK hN) rfl rfl hl.1 rfl (lv_room (Nat.le_of_ble_eq_true rfl)) d_Mo_rename_11 ⟨Nat.le_of_ble_eq_true rfl, Nat.le_of_ble_eq_true rfl⟩) ?_
  refine W.eq (g2 := F0 m 14 ls [.int (g_okv x2 y2)]) rfl ?_
  refine x_top (y := 1) (g_okv1 hok2) ?_
  refine lv_if_eq (tgt := 21) hx hb d_Mo_rename_14 (by decide) (fun c9 => absurd c9 (by decide)) (fun _ => ?_)
  refine lv_iconst (v := 1) hx hb d_Mo_rename_17 (by decide) ?_
  refine lv_goto (tgt := 22) hx hb d_Mo_rename_18 (by decide) ?_
  refine lv_istore (lv' := [(5, .int 1), (0, .ref b), (1, .int x), (2, .int y), (3, .int x2), (4, .int y2)]) hx hb d_Mo_rename_22 hl (by decide) rfl (fun ls hl => ?_)
  refine lv_aload_n hx hb d_Mo_rename_24 rfl (lv_at hl 1 rfl) ?_
  refine lv_iload hx hb d_Mo_rename_25 (lv_at hl 0 rfl) ?_
  refine lv_if_ne (tgt := 34) hx hb d_Mo_rename_27 (by decide) (fun _ => ?_) (fun c9 => absurd c9 (by decide))
  refine lv_aload_n hx hb d_Mo_rename_34 rfl (lv_at hl 1 rfl) ?_
  refine lv_iload_n hx hb d_Mo_rename_35 rfl (lv_at hl 2 rfl) ?_
  refine lv_iload_n hx hb d_Mo_rename_36 rfl (lv_at hl 3 rfl) ?_
  refine x_callP (va_runV (As := [.int x, .int y]) (rest := [.ref b]) ⟨hx, hb, hml, hown, htb⟩ (c_Mo_findHere l ho hR x y w4 w3 w2.1 w2.2.1 w2.2.2) (x_cV 2 htb mw_550 mw_6 mw_553 mw_552 ms_8 rfl rfl (by decide +kernel) ⟨Nat.le_of_ble_eq_true rfl, Nat.le_of_ble_eq_true rfl⟩) (x_preV hK hN ho rfl) rfl rfl hl.1 rfl (lv_room (Nat.le_of_ble_eq_true rfl)) d_Mo_rename_37 ⟨Nat.le_of_ble_eq_true rfl, Nat.le_of_ble_eq_true rfl⟩) ?_
  refine W.eq (g2 := F0 m 40 ls [.int (g_ixv (g_find S.2.2.1 (x, y, S.2.1))), .ref b]) rfl ?_
  refine x_top (y := nI i) (congrArg g_ixv hg) ?_
  refine lv_iconst (v := (-1)) hx hb d_Mo_rename_40 (by decide) ?_
  refine lv_icmp_ne (tgt := 48) hx hb d_Mo_rename_41 (by decide) (fun _ => ?_) (fun c9 => absurd c9 (m_nm1 (m_lt w4 i hg)))
  refine lv_aload_n hx hb d_Mo_rename_48 rfl (lv_at hl 1 rfl) ?_
  refine x_get (ci := 8) (T := T_Mo) hx hb htb u_Mo hown hK ho rfl 13 (by decide) (htb _ mw_476) (fun _ h9 => h9) (v := .int (nI S.2.2.2.2.1.length)) rfl d_Mo_rename_49 ?_
  refine lv_sipush (v := 200) hx hb d_Mo_rename_52 (by decide) ?_
  refine lv_icmp_ne (tgt := 62) hx hb d_Mo_rename_55 (by decide) (fun _ => ?_) (fun c9 => absurd c9 (fun q => absurd ((nI_eq (b := 200) (by omega) (by decide)).mp q) (by omega)))
  refine lv_iconst (v := 0) hx hb d_Mo_rename_62 (by decide) ?_
  refine x_put (F := m_fq b) (ci := 8) (v := .int 0) (ty := .int) (T := T_Mo) hx hb htb u_Mo t_Mo t_Mo_ok n_Mo hown hK ho hL ⟨Nat.le_refl _, Nat.le_add_right _ _⟩ rfl 0 (by decide) (htb _ mw_463) (fun _ h9 => h9) rfl (by decide +kernel) rfl rfl (Nat.le_of_ble_eq_true rfl) d_Mo_rename_63 (fun Ht locs hf17 hc18 hL => ?_)
  have hf17 : va_at D x_cl (b, .inr (8, [.int 0, .ref (b + 1), .ref (b + 2), .int (nI S.1.length), .int (nI S.2.1.length), .ref (b + 3), .ref (b + 4), .ref (b + 5), .ref (b + 6), .ref (b + 7), .ref (b + 8), .int (nI S.2.2.1.length), .int (nI S.2.2.2.1.length), .int (nI S.2.2.2.2.1.length), .int (nI S.2.2.2.2.2.1), .ref (b + 9), .ref (b + 10), .ref (b + 11), .int (nI S.2.2.2.2.2.2.length), .ref (b + 12), .ref (b + 13), .ref (b + 14), .ref (b + 15)])) Ht := hf17
  have ho : m_O D b 0 (nI S.1.length) (nI S.2.1.length) (nI S.2.2.1.length) (nI S.2.2.2.1.length) (nI S.2.2.2.2.1.length) (nI S.2.2.2.2.2.1) (nI S.2.2.2.2.2.2.length) Ht := hf17
  have hR := hR.but0 hc18
  have hM := hM.trans (m_K.but0 hc18)
  refine lv_aload_n hx hb d_Mo_rename_66 rfl (lv_at hl 1 rfl) ?_
  refine x_get (ci := 8) (T := T_Mo) hx hb htb u_Mo hown hK ho rfl 0 (by decide) (htb _ mw_463) (fun _ h9 => h9) (v := .int 0) rfl d_Mo_rename_67 ?_
  refine lv_if_ne (tgt := 97) hx hb d_Mo_rename_70 (by decide) (fun c9 => absurd rfl c9) (fun _ => ?_)
  refine lv_aload_n hx hb d_Mo_rename_73 rfl (lv_at hl 1 rfl) ?_
  refine x_callP (va_runV (As := []) (rest := []) ⟨hx, hb, hml, hown, htb⟩ (c_Mo_entry l ho hR hlt) (x_cV 0 htb mw_557 mw_6 mw_560 mw_559 ms_9 rfl rfl (by decide +kernel) ⟨Nat.le_of_ble_eq_true rfl, Nat.le_of_ble_eq_true rfl⟩) (x_preV hK hN ho rfl) rfl rfl hl.1 rfl (lv_room (Nat.le_of_ble_eq_true rfl)) d_Mo_rename_74 ⟨Nat.le_of_ble_eq_true rfl, Nat.le_of_ble_eq_true rfl⟩) ?_
  refine W.eq (g2 := F0 m 77 ls [.int (nI (120 + S.2.2.2.2.1.length))]) rfl ?_
  refine lv_istore (lv' := [(6, .int (nI (120 + S.2.2.2.2.1.length))), (5, .int 1), (0, .ref b), (1, .int x), (2, .int y), (3, .int x2), (4, .int y2)]) hx hb d_Mo_rename_77 hl (by decide) rfl (fun ls hl => ?_)
  refine lv_aload_n hx hb d_Mo_rename_79 rfl (lv_at hl 2 rfl) ?_
  refine lv_iload hx hb d_Mo_rename_80 (lv_at hl 0 rfl) ?_
  refine lv_iload_n hx hb d_Mo_rename_82 rfl (lv_at hl 3 rfl) ?_
  refine lv_iload_n hx hb d_Mo_rename_83 rfl (lv_at hl 4 rfl) ?_
  refine x_call (F := m_fq b) (va_runV (As := [.int (nI (120 + S.2.2.2.2.1.length)), .int x, .int y]) (rest := []) ⟨hx, hb, hml, hown, htb⟩ (c_Mo_name l ho hR (j := 120 + S.2.2.2.2.1.length) x y (by omega) w2.1 w2.2.1 w2.2.2) (x_cV 3 htb mw_561 mw_6 mw_564 mw_563 ms_10 rfl rfl (by decide +kernel) ⟨Nat.le_of_ble_eq_true rfl, Nat.le_of_ble_eq_true rfl⟩) (x_preV hK hN ho rfl) rfl rfl hl.1 rfl (lv_room (Nat.le_of_ble_eq_true rfl)) d_Mo_rename_84 ⟨Nat.le_of_ble_eq_true rfl, Nat.le_of_ble_eq_true rfl⟩) hL (fun q hq => hq) (fun H2 locs hP hL => ?_)
  refine W.eq (g2 := F0 m 87 ls []) rfl ?_
  obtain ⟨G1, ho, hR, q3, q4, q5⟩ := hP
  have hM := hM.trans q3
  refine lv_aload_n hx hb d_Mo_rename_87 rfl (lv_at hl 2 rfl) ?_
  refine lv_iconst (v := 1) hx hb d_Mo_rename_88 (by decide) ?_
  refine lv_iload hx hb d_Mo_rename_89 (lv_at hl 0 rfl) ?_
  refine lv_iload_n hx hb d_Mo_rename_91 rfl (lv_at hl 5 rfl) ?_
  refine lv_iload hx hb d_Mo_rename_92 (lv_at hl 6 rfl) ?_
  have hmo : m_ok S.2.2.1 (1, x2, y2, ((x, y, S.2.1), [])) := Or.inr ⟨i, hg⟩
  refine x_call (F := m_fq b) (va_runV (As := [.int 1, .int (nI (120 + S.2.2.2.2.1.length)), .int x2, .int y2]) (rest := []) ⟨hx, hb, hml, hown, htb⟩ (c_Mo_add l ho hR (o := (1, x2, y2, ((x, y, S.2.1), []))) _ w4 (q5.L (Or.inr (by omega)) w3) hlt q4 hmo) (x_cV 4 htb mw_565 mw_6 mw_568 mw_567 ms_11 rfl rfl (by decide +kernel) ⟨Nat.le_of_ble_eq_true rfl, Nat.le_of_ble_eq_true rfl⟩) (x_preV hK hN ho rfl) rfl rfl hl.1 rfl (lv_room (Nat.le_of_ble_eq_true rfl)) d_Mo_rename_94 ⟨Nat.le_of_ble_eq_true rfl, Nat.le_of_ble_eq_true rfl⟩) hL (fun q hq => hq) (fun H3 locs hP hL => ?_)
  refine W.eq (g2 := F0 m 97 ls []) rfl ?_
  obtain ⟨G2, ho, hR, q6, q7, q8, q9⟩ := hP
  exact x_vret hx hb hr hlocks ⟨m_M.th ho hR (hV.push hlt (Or.inr rfl) q5 q9 q8 q7 (m_act_len hmo w4)) rfl rfl rfl rfl (by show _ = nI (S.2.2.2.2.1 ++ [(1, x2, y2, ((x, y, S.2.1), []))]).length; rw [List.length_append]; rfl) rfl rfl, hM.trans q6⟩ hL (Nat.le_refl _) (Nat.le_refl _) d_Mo_rename_97
