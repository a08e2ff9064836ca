/-- an entry's name -/
def m_ab (G : m_G) (e : Nat) (n : g_N) : Prop := (G 3 e = n.1 ∧ G 4 e = n.2.1) ∧ (G 5 e = nI n.2.2.length ∧ n.2.2.length ≤ 100 ∧ (∀ k, k < n.2.2.length → G 7 (100 * e + k) = sb_b (n.2.2.getD k 0)) ∧ ∀ u ∈ n.2.2, u < 256)
theorem m_ab.eq {G G' : m_G} {e : Nat} {n : g_N} (h : m_ab G e n) (h3 : G' 3 = G 3) (h4 : G' 4 = G 4) (h5 : G' 5 = G 5) (h7 : G' 7 = G 7) : m_ab G' e n := by
  unfold m_ab at *
  rw [h3, h4, h5, h7]
  exact h
set_option maxHeartbeats 4000000 in
set_option maxRecDepth 100000 in
theorem c_Mo_writeT1 (l : Launch) {D : va_G} {A : Nat → ClassId} {H0 : Heap} {b : Nat} {th : Int32} {S : m_S} (h : m_M D A b th S H0) {x y : Int32} (hok : ¬ g_ok x y) : Met l y_Mo_write w_Mo_write { frames := 4, cells := 0, slots := 0, locals := 96 } (x_Pc D A [.ref b, .int x, .int y] H0) (x_Q none (fun H1 => m_M D A b 1 S H1 ∧ m_K b H0 H1)) 0 0 (m_fq b) := by
  refine Met.ofW (cc := prog_10_method_15_code) (maxL := 6) (ret := none) (by decide) rfl ?_
  intro p e s m args below meth c s₁ B hml hv
  obtain ⟨rfl, hH, hK, hN⟩ := hv
  obtain ⟨hx, hb, hr, htb, hown, hlocks⟩ := x_start (wd := Cond.code y_Mo_write prog_10_method_15_code 6 none) B
  have hl := lv_entry ([.ref b, .int x, .int y]) (n := 6) (Nat.le_of_ble_eq_true rfl)
  rw [lg_entry_eq]
  generalize (lg_sl ([.ref b, .int x, .int y]) ++ List.replicate (6 - (lg_sl ([.ref b, .int x, .int y])).length) Slot.unset).toArray = ls at hl ⊢
  have hl : lv_has ls 6 [(0, .ref b), (1, .int x), (2, .int y)] := hl
  rw [hH]
  obtain ⟨G, ho, hR, hV⟩ := h
  obtain ⟨w1, w2, ⟨w3, w4⟩, ⟨w5, w6⟩, ⟨w7, w8⟩, w9, w10⟩ := id hV
  have hM : m_K b H0 H0 := m_K.refl
  have hL : ∀ q ∈ ([] : List Loc), m_fq b q.base := fun q hq => by cases hq
  have rest : ∀ ls (fv : Int32), lv_has ls 6 [(3, .int fv), (0, .ref b), (1, .int x), (2, .int y)] → W p l e (headSpec w_Mo_write { frames := 4, cells := 0, slots := 0, locals := 96 }).room s m [Value.ref b, Value.int x, Value.int y].toArray below meth c H0 [] 0 0 (MQ below (x_Q none (fun H1 => m_M D A b 1 S H1 ∧ m_K b H0 H1)) [Value.ref b, Value.int x, Value.int y].toArray s 0 0 (m_fq b)) (F0 m 35 ls []) := by
    intro ls fv hl
    refine lv_aload_n hx hb d_Mo_write_35 rfl (lv_at hl 1 rfl) ?_
    refine lv_iload_n hx hb d_Mo_write_36 rfl (lv_at hl 2 rfl) ?_
    refine lv_iload_n hx hb d_Mo_write_37 rfl (lv_at hl 3 rfl) ?_
    refine x_callP (va_runS (As := [.int x, .int y]) (rest := [.ref b]) ⟨hx, hb, hml, hown, htb⟩ (c_Mo_isName l x y) (x_cS 2 htb mw_554 mw_6 mw_556 mw_555 rfl rfl (by decide +kernel) ⟨Nat.le_of_ble_eq_true rfl, Nat.le_of_ble_eq_true rfl⟩) (x_preS hK hN) rfl rfl hl.1 rfl (lv_room (Nat.le_of_ble_eq_true rfl)) d_Mo_write_38 ⟨Nat.le_of_ble_eq_true rfl, Nat.le_of_ble_eq_true rfl⟩) ?_
    refine W.eq (g2 := F0 m 41 ls [.int (g_okv x y), .ref b]) rfl ?_
    refine x_top (y := 0) (g_okv0 hok) ?_
    refine lv_if_ne (tgt := 48) hx hb d_Mo_write_41 (by decide) (fun c9 => absurd rfl c9) (fun _ => ?_)
    refine lv_iconst (v := 1) hx hb d_Mo_write_44 (by decide) ?_
    refine lv_goto (tgt := 57) hx hb d_Mo_write_45 (by decide) ?_
    refine x_put (F := m_fq b) (ci := 8) (v := .int 1) (ty := .int) (T := T_Mo) hx hb htb u_Mo t_Mo t_Mo_ok n_Mo hown hK ho hL ⟨Nat.le_refl _, Nat.le_add_right _ _⟩ rfl 0 (by decide) (htb _ mw_463) (fun _ h9 => h9) rfl (by decide +kernel) rfl rfl (Nat.le_of_ble_eq_true rfl) d_Mo_write_57 (fun Ht locs hf1 hc2 hL => ?_)
    have hf1 : va_at D x_cl (b, .inr (8, [.int 1, .ref (b + 1), .ref (b + 2), .int (nI S.1.length), .int (nI S.2.1.length), .ref (b + 3), .ref (b + 4), .ref (b + 5), .ref (b + 6), .ref (b + 7), .ref (b + 8), .int (nI S.2.2.1.length), .int (nI S.2.2.2.1.length), .int (nI S.2.2.2.2.1.length), .int (nI S.2.2.2.2.2.1), .ref (b + 9), .ref (b + 10), .ref (b + 11), .int (nI S.2.2.2.2.2.2.length), .ref (b + 12), .ref (b + 13), .ref (b + 14), .ref (b + 15)])) Ht := hf1
    have ho : m_O D b 1 (nI S.1.length) (nI S.2.1.length) (nI S.2.2.1.length) (nI S.2.2.2.1.length) (nI S.2.2.2.2.1.length) (nI S.2.2.2.2.2.1) (nI S.2.2.2.2.2.2.length) Ht := hf1
    have hR := hR.but0 hc2
    have hM := hM.trans (m_K.but0 hc2)
    refine lv_aload_n hx hb d_Mo_write_60 rfl (lv_at hl 1 rfl) ?_
    refine x_get (ci := 8) (T := T_Mo) hx hb htb u_Mo hown hK ho rfl 0 (by decide) (htb _ mw_463) (fun _ h9 => h9) (v := .int 1) rfl d_Mo_write_61 ?_
    refine lv_if_le (tgt := 68) hx hb d_Mo_write_64 (by decide) (fun c9 => absurd c9 (by decide)) (fun _ => ?_)
    exact x_vret hx hb hr hlocks ⟨m_M.th ho hR hV rfl rfl rfl rfl rfl rfl rfl, hM⟩ hL (Nat.le_refl _) (Nat.le_refl _) d_Mo_write_67
  refine lv_aload_n hx hb d_Mo_write_0 rfl (lv_at hl 0 rfl) ?_
  refine x_get (ci := 8) (T := T_Mo) hx hb htb u_Mo hown hK ho rfl 13 (by decide) (htb _ mw_476) (fun _ h9 => h9) (v := .int (nI S.2.2.2.2.1.length)) rfl d_Mo_write_1 ?_
  refine lv_sipush (v := 200) hx hb d_Mo_write_4 (by decide) ?_
  refine lv_icmp_eq (tgt := 29) hx hb d_Mo_write_7 (by decide) (fun c1 => ?_) (fun c1 => ?_)
  · refine lv_iconst (v := 1) hx hb d_Mo_write_29 (by decide) ?_
    refine lv_goto (tgt := 34) hx hb d_Mo_write_30 (by decide) ?_
    refine lv_istore_n (lv' := [(3, .int 1), (0, .ref b), (1, .int x), (2, .int y)]) hx hb d_Mo_write_34 rfl hl (by decide) rfl (fun ls hl => ?_)
    exact rest ls _ (lv_sub hl [0, 1, 2, 3] rfl)
  · have d1 : ¬ S.2.2.2.2.1.length = 200 := fun q => c1 (by rw [q]; rfl)
    refine lv_aload_n hx hb d_Mo_write_10 rfl (lv_at hl 0 rfl) ?_
    refine x_get (ci := 8) (T := T_Mo) hx hb htb u_Mo hown hK ho rfl 11 (by decide) (htb _ mw_474) (fun _ h9 => h9) (v := .int (nI S.2.2.1.length)) rfl d_Mo_write_11 ?_
    refine lv_bipush (v := 60) hx hb d_Mo_write_14 (by decide) ?_
    refine lv_icmp_ne (tgt := 33) hx hb d_Mo_write_16 (by decide) (fun c2 => ?_) (fun c2 => ?_)
    · have d2 : ¬ S.2.2.1.length = 60 := fun q => c2 (by rw [q]; rfl)
      refine lv_iconst (v := 0) hx hb d_Mo_write_33 (by decide) ?_
      refine lv_istore_n (lv' := [(3, .int 0), (0, .ref b), (1, .int x), (2, .int y)]) hx hb d_Mo_write_34 rfl hl (by decide) rfl (fun ls hl => ?_)
      exact rest ls _ (lv_sub hl [0, 1, 2, 3] rfl)
    · refine lv_aload_n hx hb d_Mo_write_19 rfl (lv_at hl 0 rfl) ?_
      refine lv_iload_n hx hb d_Mo_write_20 rfl (lv_at hl 1 rfl) ?_
      refine lv_iload_n hx hb d_Mo_write_21 rfl (lv_at hl 2 rfl) ?_
      refine x_callP (va_runV (As := [.int x, .int y]) (rest := []) ⟨hx, hb, hml, hown, htb⟩ (c_Mo_findHere l ho hR x y w4 w3 w2.1 w2.2.1 w2.2.2) (x_cV 2 htb mw_550 mw_6 mw_553 mw_552 ms_8 rfl rfl (by decide +kernel) ⟨Nat.le_of_ble_eq_true rfl, Nat.le_of_ble_eq_true rfl⟩) (x_preV hK hN ho rfl) rfl rfl hl.1 rfl (lv_room (Nat.le_of_ble_eq_true rfl)) d_Mo_write_22 ⟨Nat.le_of_ble_eq_true rfl, Nat.le_of_ble_eq_true rfl⟩) ?_
      refine W.eq (g2 := F0 m 25 ls [.int (g_ixv (g_find S.2.2.1 (x, y, S.2.1)))]) rfl ?_
      refine lv_iconst (v := (-1)) hx hb d_Mo_write_25 (by decide) ?_
      refine lv_icmp_ne (tgt := 33) hx hb d_Mo_write_26 (by decide) (fun c3 => ?_) (fun c3 => ?_)
      · refine lv_iconst (v := 0) hx hb d_Mo_write_33 (by decide) ?_
        refine lv_istore_n (lv' := [(3, .int 0), (0, .ref b), (1, .int x), (2, .int y)]) hx hb d_Mo_write_34 rfl hl (by decide) rfl (fun ls hl => ?_)
        exact rest ls _ (lv_sub hl [0, 1, 2, 3] rfl)
      · refine lv_iconst (v := 1) hx hb d_Mo_write_29 (by decide) ?_
        refine lv_goto (tgt := 34) hx hb d_Mo_write_30 (by decide) ?_
        refine lv_istore_n (lv' := [(3, .int 1), (0, .ref b), (1, .int x), (2, .int y)]) hx hb d_Mo_write_34 rfl hl (by decide) rfl (fun ls hl => ?_)
        exact rest ls _ (lv_sub hl [0, 1, 2, 3] rfl)
set_option maxHeartbeats 4000000 in
set_option maxRecDepth 100000 in
theorem c_Mo_writeT2 (l : Launch) {D : va_G} {A : Nat → ClassId} {H0 : Heap} {b : Nat} {th : Int32} {S : m_S} (h : m_M D A b th S H0) {x y : Int32} (hok : g_ok x y) (hbad : 200 ≤ S.2.2.2.2.1.length ∨ (60 ≤ S.2.2.1.length ∧ g_find S.2.2.1 (x, y, S.2.1) = none)) : Met l y_Mo_write w_Mo_write { frames := 4, cells := 0, slots := 0, locals := 96 } (x_Pc D A [.ref b, .int x, .int y] H0) (x_Q none (fun H1 => m_M D A b 2 S H1 ∧ m_K b H0 H1)) 0 0 (m_fq b) := by
  refine Met.ofW (cc := prog_10_method_15_code) (maxL := 6) (ret := none) (by decide) rfl ?_
  intro p e s m args below meth c s₁ B hml hv
  obtain ⟨rfl, hH, hK, hN⟩ := hv
  obtain ⟨hx, hb, hr, htb, hown, hlocks⟩ := x_start (wd := Cond.code y_Mo_write prog_10_method_15_code 6 none) B
  have hl := lv_entry ([.ref b, .int x, .int y]) (n := 6) (Nat.le_of_ble_eq_true rfl)
  rw [lg_entry_eq]
  generalize (lg_sl ([.ref b, .int x, .int y]) ++ List.replicate (6 - (lg_sl ([.ref b, .int x, .int y])).length) Slot.unset).toArray = ls at hl ⊢
  have hl : lv_has ls 6 [(0, .ref b), (1, .int x), (2, .int y)] := hl
  rw [hH]
  obtain ⟨G, ho, hR, hV⟩ := h
  obtain ⟨w1, w2, ⟨w3, w4⟩, ⟨w5, w6⟩, ⟨w7, w8⟩, w9, w10⟩ := id hV
  have hM : m_K b H0 H0 := m_K.refl
  have hL : ∀ q ∈ ([] : List Loc), m_fq b q.base := fun q hq => by cases hq
  have rest : ∀ ls, lv_has ls 6 [(3, .int 1), (0, .ref b), (1, .int x), (2, .int y)] → W p l e (headSpec w_Mo_write { frames := 4, cells := 0, slots := 0, locals := 96 }).room s m [Value.ref b, Value.int x, Value.int y].toArray below meth c H0 [] 0 0 (MQ below (x_Q none (fun H1 => m_M D A b 2 S H1 ∧ m_K b H0 H1)) [Value.ref b, Value.int x, Value.int y].toArray s 0 0 (m_fq b)) (F0 m 35 ls []) := by
    intro ls hl
    refine lv_aload_n hx hb d_Mo_write_35 rfl (lv_at hl 1 rfl) ?_
    refine lv_iload_n hx hb d_Mo_write_36 rfl (lv_at hl 2 rfl) ?_
    refine lv_iload_n hx hb d_Mo_write_37 rfl (lv_at hl 3 rfl) ?_
    refine x_callP (va_runS (As := [.int x, .int y]) (rest := [.ref b]) ⟨hx, hb, hml, hown, htb⟩ (c_Mo_isName l x y) (x_cS 2 htb mw_554 mw_6 mw_556 mw_555 rfl rfl (by decide +kernel) ⟨Nat.le_of_ble_eq_true rfl, Nat.le_of_ble_eq_true rfl⟩) (x_preS hK hN) rfl rfl hl.1 rfl (lv_room (Nat.le_of_ble_eq_true rfl)) d_Mo_write_38 ⟨Nat.le_of_ble_eq_true rfl, Nat.le_of_ble_eq_true rfl⟩) ?_
    refine W.eq (g2 := F0 m 41 ls [.int (g_okv x y), .ref b]) rfl ?_
    refine x_top (y := 1) (g_okv1 hok) ?_
    refine lv_if_ne (tgt := 48) hx hb d_Mo_write_41 (by decide) (fun _ => ?_) (fun c9 => absurd c9 (by decide))
    refine lv_iload_n hx hb d_Mo_write_48 rfl (lv_at hl 0 rfl) ?_
    refine lv_if_eq (tgt := 56) hx hb d_Mo_write_49 (by decide) (fun c9 => absurd c9 (by decide)) (fun _ => ?_)
    refine lv_iconst (v := 2) hx hb d_Mo_write_52 (by decide) ?_
    refine lv_goto (tgt := 57) hx hb d_Mo_write_53 (by decide) ?_
    refine x_put (F := m_fq b) (ci := 8) (v := .int 2) (ty := .int) (T := T_Mo) hx hb htb u_Mo t_Mo t_Mo_ok n_Mo hown hK ho hL ⟨Nat.le_refl _, Nat.le_add_right _ _⟩ rfl 0 (by decide) (htb _ mw_463) (fun _ h9 => h9) rfl (by decide +kernel) rfl rfl (Nat.le_of_ble_eq_true rfl) d_Mo_write_57 (fun Ht locs hf3 hc4 hL => ?_)
    have hf3 : va_at D x_cl (b, .inr (8, [.int 2, .ref (b + 1), .ref (b + 2), .int (nI S.1.length), .int (nI S.2.1.length), .ref (b + 3), .ref (b + 4), .ref (b + 5), .ref (b + 6), .ref (b + 7), .ref (b + 8), .int (nI S.2.2.1.length), .int (nI S.2.2.2.1.length), .int (nI S.2.2.2.2.1.length), .int (nI S.2.2.2.2.2.1), .ref (b + 9), .ref (b + 10), .ref (b + 11), .int (nI S.2.2.2.2.2.2.length), .ref (b + 12), .ref (b + 13), .ref (b + 14), .ref (b + 15)])) Ht := hf3
    have ho : m_O D b 2 (nI S.1.length) (nI S.2.1.length) (nI S.2.2.1.length) (nI S.2.2.2.1.length) (nI S.2.2.2.2.1.length) (nI S.2.2.2.2.2.1) (nI S.2.2.2.2.2.2.length) Ht := hf3
    have hR := hR.but0 hc4
    have hM := hM.trans (m_K.but0 hc4)
    refine lv_aload_n hx hb d_Mo_write_60 rfl (lv_at hl 1 rfl) ?_
    refine x_get (ci := 8) (T := T_Mo) hx hb htb u_Mo hown hK ho rfl 0 (by decide) (htb _ mw_463) (fun _ h9 => h9) (v := .int 2) rfl d_Mo_write_61 ?_
    refine lv_if_le (tgt := 68) hx hb d_Mo_write_64 (by decide) (fun c9 => absurd c9 (by decide)) (fun _ => ?_)
    exact x_vret hx hb hr hlocks ⟨m_M.th ho hR hV rfl rfl rfl rfl rfl rfl rfl, hM⟩ hL (Nat.le_refl _) (Nat.le_refl _) d_Mo_write_67
  refine lv_aload_n hx hb d_Mo_write_0 rfl (lv_at hl 0 rfl) ?_
  refine x_get (ci := 8) (T := T_Mo) hx hb htb u_Mo hown hK ho rfl 13 (by decide) (htb _ mw_476) (fun _ h9 => h9) (v := .int (nI S.2.2.2.2.1.length)) rfl d_Mo_write_1 ?_
  refine lv_sipush (v := 200) hx hb d_Mo_write_4 (by decide) ?_
  refine lv_icmp_eq (tgt := 29) hx hb d_Mo_write_7 (by decide) (fun c1 => ?_) (fun c1 => ?_)
  · refine lv_iconst (v := 1) hx hb d_Mo_write_29 (by decide) ?_
    refine lv_goto (tgt := 34) hx hb d_Mo_write_30 (by decide) ?_
    refine lv_istore_n (lv' := [(3, .int 1), (0, .ref b), (1, .int x), (2, .int y)]) hx hb d_Mo_write_34 rfl hl (by decide) rfl (fun ls hl => ?_)
    exact rest ls (lv_sub hl [0, 1, 2, 3] rfl)
  · have d1 : ¬ S.2.2.2.2.1.length = 200 := fun q => c1 (by rw [q]; rfl)
    refine lv_aload_n hx hb d_Mo_write_10 rfl (lv_at hl 0 rfl) ?_
    refine x_get (ci := 8) (T := T_Mo) hx hb htb u_Mo hown hK ho rfl 11 (by decide) (htb _ mw_474) (fun _ h9 => h9) (v := .int (nI S.2.2.1.length)) rfl d_Mo_write_11 ?_
    refine lv_bipush (v := 60) hx hb d_Mo_write_14 (by decide) ?_
    refine lv_icmp_ne (tgt := 33) hx hb d_Mo_write_16 (by decide) (fun c2 => ?_) (fun c2 => ?_)
    · have d2 : ¬ S.2.2.1.length = 60 := fun q => c2 (by rw [q]; rfl)
      exact absurd hbad (fun q => q.elim (fun q => d1 (by omega)) (fun q => d2 (by omega)))
    · refine lv_aload_n hx hb d_Mo_write_19 rfl (lv_at hl 0 rfl) ?_
      refine lv_iload_n hx hb d_Mo_write_20 rfl (lv_at hl 1 rfl) ?_
      refine lv_iload_n hx hb d_Mo_write_21 rfl (lv_at hl 2 rfl) ?_
      refine x_callP (va_runV (As := [.int x, .int y]) (rest := []) ⟨hx, hb, hml, hown, htb⟩ (c_Mo_findHere l ho hR x y w4 w3 w2.1 w2.2.1 w2.2.2) (x_cV 2 htb mw_550 mw_6 mw_553 mw_552 ms_8 rfl rfl (by decide +kernel) ⟨Nat.le_of_ble_eq_true rfl, Nat.le_of_ble_eq_true rfl⟩) (x_preV hK hN ho rfl) rfl rfl hl.1 rfl (lv_room (Nat.le_of_ble_eq_true rfl)) d_Mo_write_22 ⟨Nat.le_of_ble_eq_true rfl, Nat.le_of_ble_eq_true rfl⟩) ?_
      refine W.eq (g2 := F0 m 25 ls [.int (g_ixv (g_find S.2.2.1 (x, y, S.2.1)))]) rfl ?_
      refine lv_iconst (v := (-1)) hx hb d_Mo_write_25 (by decide) ?_
      refine lv_icmp_ne (tgt := 33) hx hb d_Mo_write_26 (by decide) (fun c3 => ?_) (fun c3 => ?_)
      · exact absurd hbad (fun q => q.elim (fun q => d1 (by omega)) (fun q => c3 (congrArg g_ixv q.2)))
      · refine lv_iconst (v := 1) hx hb d_Mo_write_29 (by decide) ?_
        refine lv_goto (tgt := 34) hx hb d_Mo_write_30 (by decide) ?_
        refine lv_istore_n (lv' := [(3, .int 1), (0, .ref b), (1, .int x), (2, .int y)]) hx hb d_Mo_write_34 rfl hl (by decide) rfl (fun ls hl => ?_)
        exact rest ls (lv_sub hl [0, 1, 2, 3] rfl)
set_option maxHeartbeats 4000000 in
set_option maxRecDepth 100000 in
theorem c_Mo_write (l : Launch) {D : va_G} {A : Nat → ClassId} {H0 : Heap} {b : Nat} {th : Int32} {S : m_S} (h : m_M D A b th S H0) {x y : Int32} (hok : g_ok x y) (hroom : S.2.2.1.length < 60 ∨ ∃ i, g_find S.2.2.1 (x, y, S.2.1) = some i) (hlt : S.2.2.2.2.1.length < 200) : Met l y_Mo_write w_Mo_write { frames := 4, cells := 0, slots := 0, locals := 96 } (x_Pc D A [.ref b, .int x, .int y] H0) (x_Q none (fun H1 => m_M D A b 0 (m_push S [] (0, 0, 0, ((x, y, S.2.1), S.1))) H1 ∧ m_K b H0 H1)) 0 0 (m_fq b) := by
  refine Met.ofW (cc := prog_10_method_15_code) (maxL := 6) (ret := none) (by decide) rfl ?_
  intro p e s m args below meth c s₁ B hml hv
  obtain ⟨rfl, hH, hK, hN⟩ := hv
  obtain ⟨hx, hb, hr, htb, hown, hlocks⟩ := x_start (wd := Cond.code y_Mo_write prog_10_method_15_code 6 none) B
  have hl := lv_entry ([.ref b, .int x, .int y]) (n := 6) (Nat.le_of_ble_eq_true rfl)
  rw [lg_entry_eq]
  generalize (lg_sl ([.ref b, .int x, .int y]) ++ List.replicate (6 - (lg_sl ([.ref b, .int x, .int y])).length) Slot.unset).toArray = ls at hl ⊢
  have hl : lv_has ls 6 [(0, .ref b), (1, .int x), (2, .int y)] := hl
  rw [hH]
  obtain ⟨G, ho, hR, hV⟩ := h
  obtain ⟨w1, w2, ⟨w3, w4⟩, ⟨w5, w6⟩, ⟨w7, w8⟩, w9, w10⟩ := id hV
  have hM : m_K b H0 H0 := m_K.refl
  have hL : ∀ q ∈ ([] : List Loc), m_fq b q.base := fun q hq => by cases hq
  have rest : ∀ ls, lv_has ls 6 [(3, .int 0), (0, .ref b), (1, .int x), (2, .int y)] → W p l e (headSpec w_Mo_write { frames := 4, cells := 0, slots := 0, locals := 96 }).room s m [Value.ref b, Value.int x, Value.int y].toArray below meth c H0 [] 0 0 (MQ below (x_Q none (fun H1 => m_M D A b 0 (m_push S [] (0, 0, 0, ((x, y, S.2.1), S.1))) H1 ∧ m_K b H0 H1)) [Value.ref b, Value.int x, Value.int y].toArray s 0 0 (m_fq b)) (F0 m 35 ls []) := by
    intro ls hl
    refine lv_aload_n hx hb d_Mo_write_35 rfl (lv_at hl 1 rfl) ?_
    refine lv_iload_n hx hb d_Mo_write_36 rfl (lv_at hl 2 rfl) ?_
    refine lv_iload_n hx hb d_Mo_write_37 rfl (lv_at hl 3 rfl) ?_
    refine x_callP (va_runS (As := [.int x, .int y]) (rest := [.ref b]) ⟨hx, hb, hml, hown, htb⟩ (c_Mo_isName l x y) (x_cS 2 htb mw_554 mw_6 mw_556 mw_555 rfl rfl (by decide +kernel) ⟨Nat.le_of_ble_eq_true rfl, Nat.le_of_ble_eq_true rfl⟩) (x_preS hK hN) rfl rfl hl.1 rfl (lv_room (Nat.le_of_ble_eq_true rfl)) d_Mo_write_38 ⟨Nat.le_of_ble_eq_true rfl, Nat.le_of_ble_eq_true rfl⟩) ?_
    refine W.eq (g2 := F0 m 41 ls [.int (g_okv x y), .ref b]) rfl ?_
    refine x_top (y := 1) (g_okv1 hok) ?_
    refine lv_if_ne (tgt := 48) hx hb d_Mo_write_41 (by decide) (fun _ => ?_) (fun c9 => absurd c9 (by decide))
    refine lv_iload_n hx hb d_Mo_write_48 rfl (lv_at hl 0 rfl) ?_
    refine lv_if_eq (tgt := 56) hx hb d_Mo_write_49 (by decide) (fun _ => ?_) (fun c9 => absurd rfl c9)
    refine lv_iconst (v := 0) hx hb d_Mo_write_56 (by decide) ?_
    refine x_put (F := m_fq b) (ci := 8) (v := .int 0) (ty := .int) (T := T_Mo) hx hb htb u_Mo t_Mo t_Mo_ok n_Mo hown hK ho hL ⟨Nat.le_refl _, Nat.le_add_right _ _⟩ rfl 0 (by decide) (htb _ mw_463) (fun _ h9 => h9) rfl (by decide +kernel) rfl rfl (Nat.le_of_ble_eq_true rfl) d_Mo_write_57 (fun Ht locs hf5 hc6 hL => ?_)
    have hf5 : va_at D x_cl (b, .inr (8, [.int 0, .ref (b + 1), .ref (b + 2), .int (nI S.1.length), .int (nI S.2.1.length), .ref (b + 3), .ref (b + 4), .ref (b + 5), .ref (b + 6), .ref (b + 7), .ref (b + 8), .int (nI S.2.2.1.length), .int (nI S.2.2.2.1.length), .int (nI S.2.2.2.2.1.length), .int (nI S.2.2.2.2.2.1), .ref (b + 9), .ref (b + 10), .ref (b + 11), .int (nI S.2.2.2.2.2.2.length), .ref (b + 12), .ref (b + 13), .ref (b + 14), .ref (b + 15)])) Ht := hf5
    have ho : m_O D b 0 (nI S.1.length) (nI S.2.1.length) (nI S.2.2.1.length) (nI S.2.2.2.1.length) (nI S.2.2.2.2.1.length) (nI S.2.2.2.2.2.1) (nI S.2.2.2.2.2.2.length) Ht := hf5
    have hR := hR.but0 hc6
    have hM := hM.trans (m_K.but0 hc6)
    refine lv_aload_n hx hb d_Mo_write_60 rfl (lv_at hl 1 rfl) ?_
    refine x_get (ci := 8) (T := T_Mo) hx hb htb u_Mo hown hK ho rfl 0 (by decide) (htb _ mw_463) (fun _ h9 => h9) (v := .int 0) rfl d_Mo_write_61 ?_
    refine lv_if_le (tgt := 68) hx hb d_Mo_write_64 (by decide) (fun _ => ?_) (fun c9 => absurd (by decide) c9)
    refine lv_aload_n hx hb d_Mo_write_68 rfl (lv_at hl 1 rfl) ?_
    refine x_callP (va_runV (As := []) (rest := []) ⟨hx, hb, hml, hown, htb⟩ (c_Mo_entry l ho hR hlt) (x_cV 0 htb mw_557 mw_6 mw_560 mw_559 ms_9 rfl rfl (by decide +kernel) ⟨Nat.le_of_ble_eq_true rfl, Nat.le_of_ble_eq_true rfl⟩) (x_preV hK hN ho rfl) rfl rfl hl.1 rfl (lv_room (Nat.le_of_ble_eq_true rfl)) d_Mo_write_69 ⟨Nat.le_of_ble_eq_true rfl, Nat.le_of_ble_eq_true rfl⟩) ?_
    refine W.eq (g2 := F0 m 72 ls [.int (nI (120 + S.2.2.2.2.1.length))]) rfl ?_
    refine lv_istore (lv' := [(4, .int (nI (120 + S.2.2.2.2.1.length))), (3, .int 0), (0, .ref b), (1, .int x), (2, .int y)]) hx hb d_Mo_write_72 hl (by decide) rfl (fun ls hl => ?_)
    refine lv_aload_n hx hb d_Mo_write_74 rfl (lv_at hl 2 rfl) ?_
    refine lv_iload hx hb d_Mo_write_75 (lv_at hl 0 rfl) ?_
    refine lv_iload_n hx hb d_Mo_write_77 rfl (lv_at hl 3 rfl) ?_
    refine lv_iload_n hx hb d_Mo_write_78 rfl (lv_at hl 4 rfl) ?_
    refine x_call (F := m_fq b) (va_runV (As := [.int (nI (120 + S.2.2.2.2.1.length)), .int x, .int y]) (rest := []) ⟨hx, hb, hml, hown, htb⟩ (c_Mo_name l ho hR (j := 120 + S.2.2.2.2.1.length) x y (by omega) w2.1 w2.2.1 w2.2.2) (x_cV 3 htb mw_561 mw_6 mw_564 mw_563 ms_10 rfl rfl (by decide +kernel) ⟨Nat.le_of_ble_eq_true rfl, Nat.le_of_ble_eq_true rfl⟩) (x_preV hK hN ho rfl) rfl rfl hl.1 rfl (lv_room (Nat.le_of_ble_eq_true rfl)) d_Mo_write_79 ⟨Nat.le_of_ble_eq_true rfl, Nat.le_of_ble_eq_true rfl⟩) hL (fun q hq => hq) (fun H2 locs hP hL => ?_)
    refine W.eq (g2 := F0 m 82 ls []) rfl ?_
    obtain ⟨G1, ho, hR, q3, q4, q5⟩ := hP
    have hM := hM.trans q3
    have hab : m_ab G1 (120 + S.2.2.2.2.1.length) (x, y, S.2.1) := ⟨q4.1, q4.2.1⟩
    clear q4
    have hdl := hlt
    refine lv_aload_n hx hb d_Mo_write_82 rfl (lv_at hl 2 rfl) ?_
    refine x_get (ci := 8) (T := T_Mo) hx hb htb u_Mo hown hK ho rfl 8 (by decide) (htb _ mw_471) (fun _ h9 => h9) (v := .ref (b + 6)) rfl d_Mo_write_83 ?_
    refine lv_iload hx hb d_Mo_write_86 (lv_at hl 0 rfl) ?_
    refine lv_aload_n hx hb d_Mo_write_88 rfl (lv_at hl 2 rfl) ?_
    refine x_get (ci := 8) (T := T_Mo) hx hb htb u_Mo hown hK ho rfl 3 (by decide) (htb _ mw_466) (fun _ h9 => h9) (v := .int (nI S.1.length)) rfl d_Mo_write_89 ?_
    refine m_ist hx hb hK ho hM hL hR 6 (by decide) (by decide) rfl (i := 120 + S.2.2.2.2.1.length) (show _ < 320 by omega) d_Mo_write_92 (fun H3 locs ho hM hL hR => ?_)
    obtain ⟨G2, eG2⟩ : ∃ Gq : m_G, Gq = m_up G1 6 (upd (G1 6) (120 + S.2.2.2.2.1.length) (nI S.1.length)) := ⟨_, rfl⟩
    rw [← eG2] at hR
    have uG2 : ∀ j, j ≠ 6 → G2 j = G1 j := fun j h => by rw [eG2]; exact m_up_ne _ _ h
    have sG2 : G2 6 = upd (G1 6) (120 + S.2.2.2.2.1.length) (nI S.1.length) := by rw [eG2]; exact m_up_self _ _ _
    have hab : m_ab G2 (120 + S.2.2.2.2.1.length) (x, y, S.2.1) := hab.eq (uG2 3 (by decide)) (uG2 4 (by decide)) (uG2 5 (by decide)) (uG2 7 (by decide))
    have h6 : G2 6 (120 + S.2.2.2.2.1.length) = nI S.1.length := by rw [sG2, pk_us]
    have hfr : m_fr (120 + S.2.2.2.2.1.length) G G2 := q5.trans (by rw [eG2]; exact m_fr.set (by decide) (by decide))
    clear uG2 sG2 eG2 q5
    refine lv_iconst (v := 0) hx hb d_Mo_write_93 (by decide) ?_
    refine lv_istore (lv' := [(5, .int 0), (4, .int (nI (120 + S.2.2.2.2.1.length))), (3, .int 0), (0, .ref b), (1, .int x), (2, .int y)]) hx hb d_Mo_write_94 hl (by decide) rfl (fun ls hl => ?_)
    refine x_loop (σ := Nat × m_G × Heap × List Loc × Array Slot) (fun z => F0 m 96 z.2.2.2.2 []) (fun z => z.2.2.1) (fun z => z.2.2.2.1) (fun z => z.1 ≤ S.1.length ∧ m_O D b 0 (nI S.1.length) (nI S.2.1.length) (nI S.2.2.1.length) (nI S.2.2.2.1.length) (nI S.2.2.2.2.1.length) (nI S.2.2.2.2.2.1) (nI S.2.2.2.2.2.2.length) z.2.2.1 ∧ m_R D A b z.2.1 z.2.2.1 ∧ m_K b H0 z.2.2.1 ∧ (∀ q ∈ z.2.2.2.1, m_fq b q.base) ∧ m_fr (120 + S.2.2.2.2.1.length) G z.2.1 ∧ m_ab z.2.1 (120 + S.2.2.2.2.1.length) (x, y, S.2.1) ∧ z.2.1 6 (120 + S.2.2.2.2.1.length) = nI S.1.length ∧ (∀ q, q < z.1 → z.2.1 8 (400 * (120 + S.2.2.2.2.1.length) + q) = sb_b (S.1.getD q 0)) ∧ lv_has z.2.2.2.2 6 [(5, .int (nI z.1)), (4, .int (nI (120 + S.2.2.2.2.1.length))), (0, .ref b), (1, .int x), (2, .int y)]) (fun z => S.1.length - z.1) (s0 := (0, G2, H3, _, ls)) ⟨Nat.zero_le _, ho, hR, hM, hL, hfr, hab, h6, (fun q hq => absurd hq (Nat.not_lt_zero q)), (lv_sub hl [0, 1, 3, 4, 5] rfl)⟩ ?_
    clear hR ho hM hL hl
    rintro ⟨k, G3, H, locs, ls⟩ ⟨hk, ho, hR, hM, hL, hfr, hab, h6, hbb, hl⟩ ih
    dsimp only at hk ho hR hM hL hfr hab h6 hbb hl ih ⊢
    refine lv_iload hx hb d_Mo_write_96 (lv_at hl 0 rfl) ?_
    refine lv_aload_n hx hb d_Mo_write_98 rfl (lv_at hl 2 rfl) ?_
    refine x_get (ci := 8) (T := T_Mo) hx hb htb u_Mo hown hK ho rfl 3 (by decide) (htb _ mw_466) (fun _ h9 => h9) (v := .int (nI S.1.length)) rfl d_Mo_write_99 ?_
    refine lv_icmp_ge (tgt := 132) hx hb d_Mo_write_102 (by decide) (fun c1 => ?_) (fun c1 => ?_)
    · have e1 : k = S.1.length := Nat.le_antisymm hk (Nat.le_of_not_lt fun q => absurd c1 (nI_ge q (by have := w1.1; omega)))
      subst e1
      clear ih
      refine lv_aload_n hx hb d_Mo_write_132 rfl (lv_at hl 2 rfl) ?_
      refine lv_iconst (v := 0) hx hb d_Mo_write_133 (by decide) ?_
      refine x_put (F := m_fq b) (ci := 8) (v := .int 0) (ty := .int) (T := T_Mo) hx hb htb u_Mo t_Mo t_Mo_ok n_Mo hown hK ho hL ⟨Nat.le_refl _, Nat.le_add_right _ _⟩ rfl 3 (by decide) (htb _ mw_466) (fun _ h9 => h9) rfl (by decide +kernel) rfl rfl (Nat.le_of_ble_eq_true rfl) d_Mo_write_134 (fun H4 locs hf7 hc8 hL => ?_)
      have hf7 : va_at D x_cl (b, .inr (8, [.int 0, .ref (b + 1), .ref (b + 2), .int 0, .int (nI S.2.1.length), .ref (b + 3), .ref (b + 4), .ref (b + 5), .ref (b + 6), .ref (b + 7), .ref (b + 8), .int (nI S.2.2.1.length), .int (nI S.2.2.2.1.length), .int (nI S.2.2.2.2.1.length), .int (nI S.2.2.2.2.2.1), .ref (b + 9), .ref (b + 10), .ref (b + 11), .int (nI S.2.2.2.2.2.2.length), .ref (b + 12), .ref (b + 13), .ref (b + 14), .ref (b + 15)])) H4 := hf7
      have ho : m_O D b 0 0 (nI S.2.1.length) (nI S.2.2.1.length) (nI S.2.2.2.1.length) (nI S.2.2.2.2.1.length) (nI S.2.2.2.2.2.1) (nI S.2.2.2.2.2.2.length) H4 := hf7
      have hR := hR.but0 hc8
      have hM := hM.trans (m_K.but0 hc8)
      refine lv_aload_n hx hb d_Mo_write_137 rfl (lv_at hl 2 rfl) ?_
      refine lv_iconst (v := 0) hx hb d_Mo_write_138 (by decide) ?_
      refine lv_iload hx hb d_Mo_write_139 (lv_at hl 1 rfl) ?_
      refine lv_iconst (v := 0) hx hb d_Mo_write_141 (by decide) ?_
      refine lv_iconst (v := 0) hx hb d_Mo_write_142 (by decide) ?_
      have q4 : m_e G3 (120 + S.2.2.2.2.1.length) ((x, y, S.2.1), S.1) := ⟨hab.1, hab.2, h6, w1.1, hbb, w1.2.2⟩
      have hmo : m_ok S.2.2.1 (0, 0, 0, ((x, y, S.2.1), S.1)) := hroom.elim (fun q => Or.inl ⟨rfl, q⟩) (fun q => Or.inr q)
      refine x_call (F := m_fq b) (va_runV (As := [.int 0, .int (nI (120 + S.2.2.2.2.1.length)), .int 0, .int 0]) (rest := []) ⟨hx, hb, hml, hown, htb⟩ (c_Mo_add l ho hR (o := (0, 0, 0, ((x, y, S.2.1), S.1))) _ w4 (hfr.L (Or.inr (by omega)) w3) hlt q4 hmo) (x_cV 4 htb mw_565 mw_6 mw_568 mw_567 ms_11 rfl rfl (by decide +kernel) ⟨Nat.le_of_ble_eq_true rfl, Nat.le_of_ble_eq_true rfl⟩) (x_preV hK hN ho rfl) rfl rfl hl.1 rfl (lv_room (Nat.le_of_ble_eq_true rfl)) d_Mo_write_143 ⟨Nat.le_of_ble_eq_true rfl, Nat.le_of_ble_eq_true rfl⟩) hL (fun q hq => hq) (fun H5 locs hP hL => ?_)
      refine W.eq (g2 := F0 m 146 ls []) rfl ?_
      obtain ⟨G4, ho, hR, q6, q7, q8, q9⟩ := hP
      exact x_vret hx hb hr hlocks ⟨m_M.th ho hR (hV.push hlt (Or.inl rfl) hfr q9 q8 q7 (m_act_len hmo w4)) rfl rfl rfl rfl (by show _ = nI (S.2.2.2.2.1 ++ [(0, 0, 0, ((x, y, S.2.1), S.1))]).length; rw [List.length_append]; rfl) rfl rfl, hM.trans q6⟩ hL (Nat.le_refl _) (Nat.le_refl _) d_Mo_write_146
    · have w11 := w1.1
      have hlt2 : k < S.1.length := Nat.lt_of_not_le fun q => absurd (nI_le q (by omega)) c1
      refine lv_aload_n hx hb d_Mo_write_105 rfl (lv_at hl 2 rfl) ?_
      refine x_get (ci := 8) (T := T_Mo) hx hb htb u_Mo hown hK ho rfl 10 (by decide) (htb _ mw_473) (fun _ h9 => h9) (v := .ref (b + 8)) rfl d_Mo_write_106 ?_
      refine lv_sipush (v := 400) hx hb d_Mo_write_109 (by decide) ?_
      refine lv_iload hx hb d_Mo_write_112 (lv_at hl 1 rfl) ?_
      refine lv_imul hx hb d_Mo_write_114 ?_
      refine lv_iload hx hb d_Mo_write_115 (lv_at hl 0 rfl) ?_
      refine lv_iadd hx hb d_Mo_write_117 ?_
      refine x_top (y := nI (400 * (120 + S.2.2.2.2.1.length) + k)) (by rw [show (400 : Int32) = nI 400 from rfl, pk_mul, nI_add]) ?_
      refine lv_aload_n hx hb d_Mo_write_118 rfl (lv_at hl 2 rfl) ?_
      refine x_get (ci := 8) (T := T_Mo) hx hb htb u_Mo hown hK ho rfl 1 (by decide) (htb _ mw_464) (fun _ h9 => h9) (v := .ref (b + 1)) rfl d_Mo_write_119 ?_
      refine lv_iload hx hb d_Mo_write_122 (lv_at hl 0 rfl) ?_
      refine m_bld hx hb hK hR 1 (by decide) (by decide) rfl (i := k) (show _ < 400 by omega) d_Mo_write_124 ?_
      refine x_top (y := sb_b (S.1.getD k 0)) ((congrFun (hfr.2 1 (by decide)) k).trans (w1.2.1 k hlt2)) ?_
      refine m_bst hx hb hK ho hM hL hR 8 (by decide) (by decide) rfl (i := 400 * (120 + S.2.2.2.2.1.length) + k) (show _ < 128000 by omega) (m_nar _) d_Mo_write_125 (fun H7 locs ho hM hL hR => ?_)
      obtain ⟨G7, eG7⟩ : ∃ Gq : m_G, Gq = m_up G3 8 (upd (G3 8) (400 * (120 + S.2.2.2.2.1.length) + k) (sb_b (S.1.getD k 0))) := ⟨_, rfl⟩
      rw [← eG7] at hR
      have uG7 : ∀ j, j ≠ 8 → G7 j = G3 j := fun j h => by rw [eG7]; exact m_up_ne _ _ h
      have sG7 : G7 8 = upd (G3 8) (400 * (120 + S.2.2.2.2.1.length) + k) (sb_b (S.1.getD k 0)) := by rw [eG7]; exact m_up_self _ _ _
      have hfr7 : m_fr (120 + S.2.2.2.2.1.length) G3 G7 := by rw [eG7]; exact m_fr.c (by omega)
      refine lv_iinc (v := nI (k + 1)) (lv' := [(5, .int (nI (k + 1))), (4, .int (nI (120 + S.2.2.2.2.1.length))), (0, .ref b), (1, .int x), (2, .int y)]) hx hb d_Mo_write_126 hl (k := 0) rfl (nI_1 k) (by decide) rfl (fun ls hl => ?_)
      refine lv_goto (tgt := 96) hx hb d_Mo_write_129 (by decide) ?_
      refine ih (k + 1, G7, H7, locs, ls) ⟨hlt2, ho, hR, hM, hL, hfr.trans hfr7, hab.eq (uG7 3 (by decide)) (uG7 4 (by decide)) (uG7 5 (by decide)) (uG7 7 (by decide)), (congrFun (uG7 6 (by decide)) _).trans h6, fun q hq => ?_, (lv_sub hl [0, 1, 2, 3, 4] rfl)⟩ (by show S.1.length - (k + 1) < S.1.length - k; omega)
      have hq : q < k + 1 := hq
      show G7 8 (400 * (120 + S.2.2.2.2.1.length) + q) = _
      rw [sG7]
      rcases Nat.eq_or_lt_of_le (Nat.le_of_lt_succ hq) with e | e
      · subst e; rw [pk_us]
      · rw [pk_un (by omega)]; exact hbb q e
  refine lv_aload_n hx hb d_Mo_write_0 rfl (lv_at hl 0 rfl) ?_
  refine x_get (ci := 8) (T := T_Mo) hx hb htb u_Mo hown hK ho rfl 13 (by decide) (htb _ mw_476) (fun _ h9 => h9) (v := .int (nI S.2.2.2.2.1.length)) rfl d_Mo_write_1 ?_
  refine lv_sipush (v := 200) hx hb d_Mo_write_4 (by decide) ?_
  refine lv_icmp_eq (tgt := 29) hx hb d_Mo_write_7 (by decide) (fun c1 => ?_) (fun c1 => ?_)
  · exact absurd ((nI_eq (b := 200) (by omega) (by decide)).mp c1) (by omega)
  · have d1 : ¬ S.2.2.2.2.1.length = 200 := fun q => c1 (by rw [q]; rfl)
    refine lv_aload_n hx hb d_Mo_write_10 rfl (lv_at hl 0 rfl) ?_
    refine x_get (ci := 8) (T := T_Mo) hx hb htb u_Mo hown hK ho rfl 11 (by decide) (htb _ mw_474) (fun _ h9 => h9) (v := .int (nI S.2.2.1.length)) rfl d_Mo_write_11 ?_
    refine lv_bipush (v := 60) hx hb d_Mo_write_14 (by decide) ?_
    refine lv_icmp_ne (tgt := 33) hx hb d_Mo_write_16 (by decide) (fun c2 => ?_) (fun c2 => ?_)
    · have d2 : ¬ S.2.2.1.length = 60 := fun q => c2 (by rw [q]; rfl)
      refine lv_iconst (v := 0) hx hb d_Mo_write_33 (by decide) ?_
      refine lv_istore_n (lv' := [(3, .int 0), (0, .ref b), (1, .int x), (2, .int y)]) hx hb d_Mo_write_34 rfl hl (by decide) rfl (fun ls hl => ?_)
      exact rest ls (lv_sub hl [0, 1, 2, 3] rfl)
    · refine lv_aload_n hx hb d_Mo_write_19 rfl (lv_at hl 0 rfl) ?_
      refine lv_iload_n hx hb d_Mo_write_20 rfl (lv_at hl 1 rfl) ?_
      refine lv_iload_n hx hb d_Mo_write_21 rfl (lv_at hl 2 rfl) ?_
      refine x_callP (va_runV (As := [.int x, .int y]) (rest := []) ⟨hx, hb, hml, hown, htb⟩ (c_Mo_findHere l ho hR x y w4 w3 w2.1 w2.2.1 w2.2.2) (x_cV 2 htb mw_550 mw_6 mw_553 mw_552 ms_8 rfl rfl (by decide +kernel) ⟨Nat.le_of_ble_eq_true rfl, Nat.le_of_ble_eq_true rfl⟩) (x_preV hK hN ho rfl) rfl rfl hl.1 rfl (lv_room (Nat.le_of_ble_eq_true rfl)) d_Mo_write_22 ⟨Nat.le_of_ble_eq_true rfl, Nat.le_of_ble_eq_true rfl⟩) ?_
      refine W.eq (g2 := F0 m 25 ls [.int (g_ixv (g_find S.2.2.1 (x, y, S.2.1)))]) rfl ?_
      refine lv_iconst (v := (-1)) hx hb d_Mo_write_25 (by decide) ?_
      refine lv_icmp_ne (tgt := 33) hx hb d_Mo_write_26 (by decide) (fun c3 => ?_) (fun c3 => ?_)
      · refine lv_iconst (v := 0) hx hb d_Mo_write_33 (by decide) ?_
        refine lv_istore_n (lv' := [(3, .int 0), (0, .ref b), (1, .int x), (2, .int y)]) hx hb d_Mo_write_34 rfl hl (by decide) rfl (fun ls hl => ?_)
        exact rest ls (lv_sub hl [0, 1, 2, 3] rfl)
      · have d3 : S.2.2.1.length = 60 := (nI_eq (b := 60) (by omega) (by decide)).mp c2
        exact absurd hroom (fun q => q.elim (fun q => by omega) (fun q => by obtain ⟨i, q⟩ := q; rw [g_ixv_none c3 (m_lt w4)] at q; cases q))
