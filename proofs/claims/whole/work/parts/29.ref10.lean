def m_cntv (S : m_S) (x : Int32) : Int32 := if ¬ x < 0 ∧ x < 7 then nI (g_cnt S.2.2.1 x) else if x = 7 then nI S.2.2.1.length else if x = 8 then nI S.2.2.2.2.1.length else if x = 9 then nI S.1.length else if x = 10 then nI S.2.2.2.2.2.1 else -1
theorem g_sshr (v : Int64) {k : Nat} (hk : k < 8) : (v >>> ((nI (8 * k)).toInt64 &&& 63)).toInt32.toInt8.toInt32 = sb_b (g_by v k) := by
  rw [g_b8, g_s8i k hk]
  congr 1
  unfold g_by
  have e : (v >>> Int64.ofNat (8 * k)).toBitVec = v.toBitVec.sshiftRight (8 * k) := by
    rw [Int64.toBitVec_shiftRight]
    have h1 : (Int64.ofNat (8 * k)).toBitVec.smod 64 = BitVec.ofNat 64 (8 * k) := by
      revert k
      decide +kernel
    rw [h1]
    have h2 : (BitVec.ofNat 64 (8 * k)).toNat = 8 * k := by
      rw [BitVec.toNat_ofNat]
      omega
    show v.toBitVec.sshiftRight (BitVec.ofNat 64 (8 * k)).toNat = _
    rw [h2]
  rw [e]
  generalize v.toBitVec = x
  apply Nat.eq_of_testBit_eq
  intro i
  have e256 : (256 : Nat) = 2 ^ 8 := rfl
  rw [e256, Nat.testBit_mod_two_pow, Nat.testBit_mod_two_pow, ← Nat.shiftRight_eq_div_pow, Nat.testBit_shiftRight]
  by_cases hi : i < 8
  · have h3 : (x.sshiftRight (8 * k)).toNat.testBit i = (x.sshiftRight (8 * k)).getLsbD i := rfl
    have h4 : x.toNat.testBit (8 * k + i) = x.getLsbD (8 * k + i) := rfl
    rw [h3, h4, BitVec.getLsbD_sshiftRight]
    have h5 : ¬ 64 ≤ i := by omega
    have h6 : 8 * k + i < 64 := by omega
    simp [h5, h6]
  · simp [hi]

set_option maxHeartbeats 4000000 in
set_option maxRecDepth 100000 in
theorem c_Mo_thrown (l : Launch) {D : va_G} {A : Nat → ClassId} {H0 : Heap} {b : Nat} {th : Int32} {S : m_S} (h : m_M D A b th S H0)  : Met l y_Mo_thrown w_Mo_thrown { frames := 0, cells := 0, slots := 0, locals := 0 } (x_Pc D A [.ref b] H0) (x_Q (some (.int th)) (fun H1 => H1 = H0)) 0 0 (fun _ => False) := by
  refine Met.ofW (cc := prog_10_method_2_code) (maxL := 1) (ret := (some .int)) (by decide) rfl ?_
  intro p e s m args below meth c s₁ B hml hv
  obtain ⟨rfl, hH, hK, hN⟩ := hv
  obtain ⟨hx, hb, hr, htb, hown, hlocks⟩ := x_start (wd := Cond.code y_Mo_thrown prog_10_method_2_code 1 (some .int)) B
  have hl := lv_entry ([.ref b]) (n := 1) (Nat.le_of_ble_eq_true rfl)
  rw [lg_entry_eq]
  generalize (lg_sl ([.ref b]) ++ List.replicate (1 - (lg_sl ([.ref b])).length) Slot.unset).toArray = ls at hl ⊢
  have hl : lv_has ls 1 [(0, .ref b)] := hl
  rw [hH]
  obtain ⟨G, ho, hR, hV⟩ := h
  refine lv_aload_n hx hb d_Mo_thrown_0 rfl (lv_at hl 0 rfl) ?_
  refine x_get (ci := 8) (T := T_Mo) hx hb htb u_Mo hown hK ho rfl 0 (by decide) (htb _ mw_463) (fun _ h9 => h9) (v := .int th) rfl d_Mo_thrown_1 ?_
  exact x_iret hx hb hr hlocks rfl rfl (fun q hq => by cases hq) (Nat.le_refl _) (Nat.le_refl _) d_Mo_thrown_4
set_option maxHeartbeats 4000000 in
set_option maxRecDepth 100000 in
theorem c_Mo_size (l : Launch) {D : va_G} {A : Nat → ClassId} {H0 : Heap} {b : Nat} {th : Int32} {S : m_S} (h : m_M D A b th S H0) (x y : Int32) : Met l y_Mo_size w_Mo_size { frames := 1, cells := 0, slots := 0, locals := 25 } (x_Pc D A [.ref b, .int x, .int y] H0) (x_Q (some (.int (g_szv (g_get S.2.2.1 (x, y, S.2.1))))) (fun H1 => m_M D A b 0 S H1 ∧ m_K b H0 H1)) 0 0 (m_fq b) := by
  refine Met.ofW (cc := prog_10_method_21_code) (maxL := 4) (ret := (some .int)) (by decide) rfl ?_
  intro p e s m args below meth c s₁ B hml hv
  obtain ⟨rfl, hH, hK, hN⟩ := hv
  obtain ⟨hx, hb, hr, htb, hown, hlocks⟩ := x_start (wd := Cond.code y_Mo_size prog_10_method_21_code 4 (some .int)) B
  have hl := lv_entry ([.ref b, .int x, .int y]) (n := 4) (Nat.le_of_ble_eq_true rfl)
  rw [lg_entry_eq]
  generalize (lg_sl ([.ref b, .int x, .int y]) ++ List.replicate (4 - (lg_sl ([.ref b, .int x, .int y])).length) Slot.unset).toArray = ls at hl ⊢
  have hl : lv_has ls 4 [(0, .ref b), (1, .int x), (2, .int y)] := hl
  rw [hH]
  obtain ⟨G, ho, hR, hV⟩ := h
  obtain ⟨w1, w2, ⟨w3, w4⟩, ⟨w5, w6⟩, ⟨w7, w8⟩, w9, w10⟩ := id hV
  have hM : m_K b H0 H0 := m_K.refl
  have hL : ∀ q ∈ ([] : List Loc), m_fq b q.base := fun q hq => by cases hq
  refine lv_aload_n hx hb d_Mo_size_0 rfl (lv_at hl 0 rfl) ?_
  refine lv_iconst (v := 0) hx hb d_Mo_size_1 (by decide) ?_
  refine x_put (F := m_fq b) (ci := 8) (v := .int 0) (ty := .int) (T := T_Mo) hx hb htb u_Mo t_Mo t_Mo_ok n_Mo hown hK ho hL ⟨Nat.le_refl _, Nat.le_add_right _ _⟩ rfl 0 (by decide) (htb _ mw_463) (fun _ h9 => h9) rfl (by decide +kernel) rfl rfl (Nat.le_of_ble_eq_true rfl) d_Mo_size_2 (fun Ht locs hf1 hc2 hL => ?_)
  have hf1 : va_at D x_cl (b, .inr (8, [.int 0, .ref (b + 1), .ref (b + 2), .int (nI S.1.length), .int (nI S.2.1.length), .ref (b + 3), .ref (b + 4), .ref (b + 5), .ref (b + 6), .ref (b + 7), .ref (b + 8), .int (nI S.2.2.1.length), .int (nI S.2.2.2.1.length), .int (nI S.2.2.2.2.1.length), .int (nI S.2.2.2.2.2.1), .ref (b + 9), .ref (b + 10), .ref (b + 11), .int (nI S.2.2.2.2.2.2.length), .ref (b + 12), .ref (b + 13), .ref (b + 14), .ref (b + 15)])) Ht := hf1
  have ho : m_O D b 0 (nI S.1.length) (nI S.2.1.length) (nI S.2.2.1.length) (nI S.2.2.2.1.length) (nI S.2.2.2.2.1.length) (nI S.2.2.2.2.2.1) (nI S.2.2.2.2.2.2.length) Ht := hf1
  have hR := hR.but0 hc2
  have hM := hM.trans (m_K.but0 hc2)
  refine lv_aload_n hx hb d_Mo_size_5 rfl (lv_at hl 0 rfl) ?_
  refine lv_iload_n hx hb d_Mo_size_6 rfl (lv_at hl 1 rfl) ?_
  refine lv_iload_n hx hb d_Mo_size_7 rfl (lv_at hl 2 rfl) ?_
  refine x_callP (va_runV (As := [.int x, .int y]) (rest := []) ⟨hx, hb, hml, hown, htb⟩ (c_Mo_findHere l ho hR x y w4 w3 w2.1 w2.2.1 w2.2.2) (x_cV 2 htb mw_550 mw_6 mw_553 mw_552 ms_8 rfl rfl (by decide +kernel) ⟨Nat.le_of_ble_eq_true rfl, Nat.le_of_ble_eq_true rfl⟩) (x_preV hK hN ho rfl) rfl rfl hl.1 rfl (lv_room (Nat.le_of_ble_eq_true rfl)) d_Mo_size_8 ⟨Nat.le_of_ble_eq_true rfl, Nat.le_of_ble_eq_true rfl⟩) ?_
  refine W.eq (g2 := F0 m 11 ls [.int (g_ixv (g_find S.2.2.1 (x, y, S.2.1)))]) rfl ?_
  cases hg : g_find S.2.2.1 (x, y, S.2.1) with
  | none =>
      show W _ _ _ _ _ _ _ _ _ _ _ _ _ _ _ (F0 m 11 ls [.int (-1)])
      refine lv_istore_n (lv' := [(3, .int (-1)), (0, .ref b), (1, .int x), (2, .int y)]) hx hb d_Mo_size_11 rfl hl (by decide) rfl (fun ls hl => ?_)
      refine lv_iload_n hx hb d_Mo_size_12 rfl (lv_at hl 0 rfl) ?_
      refine lv_iconst (v := (-1)) hx hb d_Mo_size_13 (by decide) ?_
      refine lv_icmp_ne (tgt := 21) hx hb d_Mo_size_14 (by decide) (fun c9 => absurd rfl c9) (fun _ => ?_)
      refine lv_iconst (v := (-1)) hx hb d_Mo_size_17 (by decide) ?_
      refine lv_goto (tgt := 27) hx hb d_Mo_size_18 (by decide) ?_
      exact x_iret hx hb hr hlocks (by rw [g_get_none hg]; rfl) ⟨m_M.th ho hR hV rfl rfl rfl rfl rfl rfl rfl, hM⟩ hL (Nat.le_refl _) (Nat.le_refl _) d_Mo_size_27
  | some i =>
      have hi := g_find_lt hg
      obtain ⟨f, hff⟩ := g_ex hi
      have hfe : m_e G i f := w3 i f hff
      show W _ _ _ _ _ _ _ _ _ _ _ _ _ _ _ (F0 m 11 ls [.int (nI i)])
      refine lv_istore_n (lv' := [(3, .int (nI i)), (0, .ref b), (1, .int x), (2, .int y)]) hx hb d_Mo_size_11 rfl hl (by decide) rfl (fun ls hl => ?_)
      refine lv_iload_n hx hb d_Mo_size_12 rfl (lv_at hl 0 rfl) ?_
      refine lv_iconst (v := (-1)) hx hb d_Mo_size_13 (by decide) ?_
      refine lv_icmp_ne (tgt := 21) hx hb d_Mo_size_14 (by decide) (fun _ => ?_) (fun c9 => absurd c9 (m_nm1 (by omega)))
      refine lv_aload_n hx hb d_Mo_size_21 rfl (lv_at hl 1 rfl) ?_
      refine x_get (ci := 8) (T := T_Mo) hx hb htb u_Mo hown hK ho rfl 8 (by decide) (htb _ mw_471) (fun _ h9 => h9) (v := .ref (b + 6)) rfl d_Mo_size_22 ?_
      refine lv_iload_n hx hb d_Mo_size_25 rfl (lv_at hl 0 rfl) ?_
      refine m_ild hx hb hK hR 6 (by decide) (by decide) rfl (i := i) (show _ < 320 by omega) d_Mo_size_26 ?_
      refine x_top (y := nI f.2.length) (hfe.2.2.1) ?_
      exact x_iret hx hb hr hlocks (by rw [g_get_some hg hff]; rfl) ⟨m_M.th ho hR hV rfl rfl rfl rfl rfl rfl rfl, hM⟩ hL (Nat.le_refl _) (Nat.le_refl _) d_Mo_size_27
set_option maxHeartbeats 4000000 in
set_option maxRecDepth 100000 in
theorem c_Mo_at (l : Launch) {D : va_G} {A : Nat → ClassId} {H0 : Heap} {b : Nat} {th : Int32} {S : m_S} (h : m_M D A b th S H0) (x y kk : Int32) : Met l y_Mo_at w_Mo_at { frames := 1, cells := 0, slots := 0, locals := 25 } (x_Pc D A [.ref b, .int x, .int y, .int kk] H0) (x_Q (some (.int (g_atv (g_get S.2.2.1 (x, y, S.2.1)) kk))) (fun H1 => m_M D A b 0 S H1 ∧ m_K b H0 H1)) 0 0 (m_fq b) := by
  refine Met.ofW (cc := prog_10_method_22_code) (maxL := 5) (ret := (some .int)) (by decide) rfl ?_
  intro p e s m args below meth c s₁ B hml hv
  obtain ⟨rfl, hH, hK, hN⟩ := hv
  obtain ⟨hx, hb, hr, htb, hown, hlocks⟩ := x_start (wd := Cond.code y_Mo_at prog_10_method_22_code 5 (some .int)) B
  have hl := lv_entry ([.ref b, .int x, .int y, .int kk]) (n := 5) (Nat.le_of_ble_eq_true rfl)
  rw [lg_entry_eq]
  generalize (lg_sl ([.ref b, .int x, .int y, .int kk]) ++ List.replicate (5 - (lg_sl ([.ref b, .int x, .int y, .int kk])).length) Slot.unset).toArray = ls at hl ⊢
  have hl : lv_has ls 5 [(0, .ref b), (1, .int x), (2, .int y), (3, .int kk)] := hl
  rw [hH]
  obtain ⟨G, ho, hR, hV⟩ := h
  obtain ⟨w1, w2, ⟨w3, w4⟩, ⟨w5, w6⟩, ⟨w7, w8⟩, w9, w10⟩ := id hV
  have hM : m_K b H0 H0 := m_K.refl
  have hL : ∀ q ∈ ([] : List Loc), m_fq b q.base := fun q hq => by cases hq
  refine lv_aload_n hx hb d_Mo_at_0 rfl (lv_at hl 0 rfl) ?_
  refine lv_iconst (v := 0) hx hb d_Mo_at_1 (by decide) ?_
  refine x_put (F := m_fq b) (ci := 8) (v := .int 0) (ty := .int) (T := T_Mo) hx hb htb u_Mo t_Mo t_Mo_ok n_Mo hown hK ho hL ⟨Nat.le_refl _, Nat.le_add_right _ _⟩ rfl 0 (by decide) (htb _ mw_463) (fun _ h9 => h9) rfl (by decide +kernel) rfl rfl (Nat.le_of_ble_eq_true rfl) d_Mo_at_2 (fun Ht locs hf3 hc4 hL => ?_)
  have hf3 : va_at D x_cl (b, .inr (8, [.int 0, .ref (b + 1), .ref (b + 2), .int (nI S.1.length), .int (nI S.2.1.length), .ref (b + 3), .ref (b + 4), .ref (b + 5), .ref (b + 6), .ref (b + 7), .ref (b + 8), .int (nI S.2.2.1.length), .int (nI S.2.2.2.1.length), .int (nI S.2.2.2.2.1.length), .int (nI S.2.2.2.2.2.1), .ref (b + 9), .ref (b + 10), .ref (b + 11), .int (nI S.2.2.2.2.2.2.length), .ref (b + 12), .ref (b + 13), .ref (b + 14), .ref (b + 15)])) Ht := hf3
  have ho : m_O D b 0 (nI S.1.length) (nI S.2.1.length) (nI S.2.2.1.length) (nI S.2.2.2.1.length) (nI S.2.2.2.2.1.length) (nI S.2.2.2.2.2.1) (nI S.2.2.2.2.2.2.length) Ht := hf3
  have hR := hR.but0 hc4
  have hM := hM.trans (m_K.but0 hc4)
  refine lv_aload_n hx hb d_Mo_at_5 rfl (lv_at hl 0 rfl) ?_
  refine lv_iload_n hx hb d_Mo_at_6 rfl (lv_at hl 1 rfl) ?_
  refine lv_iload_n hx hb d_Mo_at_7 rfl (lv_at hl 2 rfl) ?_
  refine x_callP (va_runV (As := [.int x, .int y]) (rest := []) ⟨hx, hb, hml, hown, htb⟩ (c_Mo_findHere l ho hR x y w4 w3 w2.1 w2.2.1 w2.2.2) (x_cV 2 htb mw_550 mw_6 mw_553 mw_552 ms_8 rfl rfl (by decide +kernel) ⟨Nat.le_of_ble_eq_true rfl, Nat.le_of_ble_eq_true rfl⟩) (x_preV hK hN ho rfl) rfl rfl hl.1 rfl (lv_room (Nat.le_of_ble_eq_true rfl)) d_Mo_at_8 ⟨Nat.le_of_ble_eq_true rfl, Nat.le_of_ble_eq_true rfl⟩) ?_
  refine W.eq (g2 := F0 m 11 ls [.int (g_ixv (g_find S.2.2.1 (x, y, S.2.1)))]) rfl ?_
  cases hg : g_find S.2.2.1 (x, y, S.2.1) with
  | none =>
      show W _ _ _ _ _ _ _ _ _ _ _ _ _ _ _ (F0 m 11 ls [.int (-1)])
      refine lv_istore (lv' := [(4, .int (-1)), (0, .ref b), (1, .int x), (2, .int y), (3, .int kk)]) hx hb d_Mo_at_11 hl (by decide) rfl (fun ls hl => ?_)
      refine lv_iload hx hb d_Mo_at_13 (lv_at hl 0 rfl) ?_
      refine lv_iconst (v := (-1)) hx hb d_Mo_at_15 (by decide) ?_
      refine lv_icmp_eq (tgt := 34) hx hb d_Mo_at_16 (by decide) (fun _ => ?_) (fun c9 => absurd rfl c9)
      refine lv_iconst (v := (-1)) hx hb d_Mo_at_34 (by decide) ?_
      refine lv_goto (tgt := 55) hx hb d_Mo_at_35 (by decide) ?_
      exact x_iret hx hb hr hlocks (by rw [g_get_none hg]; rfl) ⟨m_M.th ho hR hV rfl rfl rfl rfl rfl rfl rfl, hM⟩ hL (Nat.le_refl _) (Nat.le_refl _) d_Mo_at_55
  | some i =>
      have hi := g_find_lt hg
      obtain ⟨f, hff⟩ := g_ex hi
      have hfe : m_e G i f := w3 i f hff
      obtain ⟨f7, f8, f9, f10⟩ := hfe.2.2
      have hgg : g_atv (g_get S.2.2.1 (x, y, S.2.1)) kk = g_at f.2 kk := by rw [g_get_some hg hff]; rfl
      show W _ _ _ _ _ _ _ _ _ _ _ _ _ _ _ (F0 m 11 ls [.int (nI i)])
      refine lv_istore (lv' := [(4, .int (nI i)), (0, .ref b), (1, .int x), (2, .int y), (3, .int kk)]) hx hb d_Mo_at_11 hl (by decide) rfl (fun ls hl => ?_)
      refine lv_iload hx hb d_Mo_at_13 (lv_at hl 0 rfl) ?_
      refine lv_iconst (v := (-1)) hx hb d_Mo_at_15 (by decide) ?_
      refine lv_icmp_eq (tgt := 34) hx hb d_Mo_at_16 (by decide) (fun c9 => absurd c9 (m_nm1 (by omega))) (fun _ => ?_)
      refine lv_iload_n hx hb d_Mo_at_19 rfl (lv_at hl 4 rfl) ?_
      refine lv_if_lt (tgt := 34) hx hb d_Mo_at_20 (by decide) (fun c1 => ?_) (fun c1 => ?_)
      · refine lv_iconst (v := (-1)) hx hb d_Mo_at_34 (by decide) ?_
        refine lv_goto (tgt := 55) hx hb d_Mo_at_35 (by decide) ?_
        exact x_iret hx hb hr hlocks (by rw [hgg, g_at, if_pos c1]) ⟨m_M.th ho hR hV rfl rfl rfl rfl rfl rfl rfl, hM⟩ hL (Nat.le_refl _) (Nat.le_refl _) d_Mo_at_55
      · refine lv_iload_n hx hb d_Mo_at_23 rfl (lv_at hl 4 rfl) ?_
        refine lv_aload_n hx hb d_Mo_at_24 rfl (lv_at hl 1 rfl) ?_
        refine x_get (ci := 8) (T := T_Mo) hx hb htb u_Mo hown hK ho rfl 8 (by decide) (htb _ mw_471) (fun _ h9 => h9) (v := .ref (b + 6)) rfl d_Mo_at_25 ?_
        refine lv_iload hx hb d_Mo_at_28 (lv_at hl 0 rfl) ?_
        refine m_ild hx hb hK hR 6 (by decide) (by decide) rfl (i := i) (show _ < 320 by omega) d_Mo_at_30 ?_
        refine x_top (y := nI f.2.length) (f7) ?_
        refine lv_icmp_lt (tgt := 38) hx hb d_Mo_at_31 (by decide) (fun c2 => ?_) (fun c2 => ?_)
        · obtain ⟨j, hj, rfl⟩ := nI_of c1
          have hjl : j < f.2.length := (nI_ltI hj (by omega)).mp c2
          refine lv_aload_n hx hb d_Mo_at_38 rfl (lv_at hl 1 rfl) ?_
          refine x_get (ci := 8) (T := T_Mo) hx hb htb u_Mo hown hK ho rfl 10 (by decide) (htb _ mw_473) (fun _ h9 => h9) (v := .ref (b + 8)) rfl d_Mo_at_39 ?_
          refine lv_sipush (v := 400) hx hb d_Mo_at_42 (by decide) ?_
          refine lv_iload hx hb d_Mo_at_45 (lv_at hl 0 rfl) ?_
          refine lv_imul hx hb d_Mo_at_47 ?_
          refine lv_iload_n hx hb d_Mo_at_48 rfl (lv_at hl 4 rfl) ?_
          refine lv_iadd hx hb d_Mo_at_49 ?_
          refine x_top (y := nI (400 * i + j)) (by rw [show (400 : Int32) = nI 400 from rfl, pk_mul, nI_add]) ?_
          refine m_bld hx hb hK hR 8 (by decide) (by decide) rfl (i := 400 * i + j) (show _ < 128000 by omega) d_Mo_at_50 ?_
          refine x_top (y := sb_b (f.2.getD j 0)) (f9 j hjl) ?_
          refine lv_sipush (v := 255) hx hb d_Mo_at_51 (by decide) ?_
          refine lv_iand hx hb d_Mo_at_54 ?_
          refine x_top (y := nI (f.2.getD j 0)) (g_and f10 j) ?_
          exact x_iret hx hb hr hlocks (by rw [hgg, g_at, if_neg c1, if_neg (fun q => absurd c2 (Int32.not_lt.mpr q)), nI_clamp hj]) ⟨m_M.th ho hR hV rfl rfl rfl rfl rfl rfl rfl, hM⟩ hL (Nat.le_refl _) (Nat.le_refl _) d_Mo_at_55
        · refine lv_iconst (v := (-1)) hx hb d_Mo_at_34 (by decide) ?_
          refine lv_goto (tgt := 55) hx hb d_Mo_at_35 (by decide) ?_
          exact x_iret hx hb hr hlocks (by rw [hgg, g_at, if_neg c1, if_pos (Int32.not_lt.mp c2)]) ⟨m_M.th ho hR hV rfl rfl rfl rfl rfl rfl rfl, hM⟩ hL (Nat.le_refl _) (Nat.le_refl _) d_Mo_at_55
set_option maxHeartbeats 4000000 in
set_option maxRecDepth 100000 in
theorem c_Mo_pathT (l : Launch) {D : va_G} {A : Nat → ClassId} {H0 : Heap} {b : Nat} {th : Int32} {S : m_S} (h : m_M D A b th S H0) (hlen : 100 < S.1.length) : Met l y_Mo_path w_Mo_path { frames := 0, cells := 0, slots := 0, locals := 0 } (x_Pc D A [.ref b] H0) (x_Q (some (.int 0)) (fun H1 => m_M D A b 1 S H1 ∧ m_K b H0 H1)) 0 0 (m_fq b) := by
  refine Met.ofW (cc := prog_10_method_4_code) (maxL := 2) (ret := (some .int)) (by decide) rfl ?_
  intro p e s m args below meth c s₁ B hml hv
  obtain ⟨rfl, hH, hK, hN⟩ := hv
  obtain ⟨hx, hb, hr, htb, hown, hlocks⟩ := x_start (wd := Cond.code y_Mo_path prog_10_method_4_code 2 (some .int)) B
  have hl := lv_entry ([.ref b]) (n := 2) (Nat.le_of_ble_eq_true rfl)
  rw [lg_entry_eq]
  generalize (lg_sl ([.ref b]) ++ List.replicate (2 - (lg_sl ([.ref b])).length) Slot.unset).toArray = ls at hl ⊢
  have hl : lv_has ls 2 [(0, .ref b)] := hl
  rw [hH]
  obtain ⟨G, ho, hR, hV⟩ := h
  obtain ⟨w1, w2, ⟨w3, w4⟩, ⟨w5, w6⟩, ⟨w7, w8⟩, w9, w10⟩ := id hV
  have hM : m_K b H0 H0 := m_K.refl
  have hL : ∀ q ∈ ([] : List Loc), m_fq b q.base := fun q hq => by cases hq
  have w11 := w1.1
  refine lv_aload_n hx hb d_Mo_path_0 rfl (lv_at hl 0 rfl) ?_
  refine lv_aload_n hx hb d_Mo_path_1 rfl (lv_at hl 0 rfl) ?_
  refine x_get (ci := 8) (T := T_Mo) hx hb htb u_Mo hown hK ho rfl 3 (by decide) (htb _ mw_466) (fun _ h9 => h9) (v := .int (nI S.1.length)) rfl d_Mo_path_2 ?_
  refine lv_bipush (v := 100) hx hb d_Mo_path_5 (by decide) ?_
  refine lv_icmp_le (tgt := 14) hx hb d_Mo_path_7 (by decide) (fun c9 => absurd c9 (fun q => absurd ((nI_leI (b := 100) (by omega) (by decide)).mp q) (by omega))) (fun _ => ?_)
  refine lv_iconst (v := 1) hx hb d_Mo_path_10 (by decide) ?_
  refine lv_goto (tgt := 15) hx hb d_Mo_path_11 (by decide) ?_
  refine x_put (F := m_fq b) (ci := 8) (v := .int 1) (ty := .int) (T := T_Mo) hx hb htb u_Mo t_Mo t_Mo_ok n_Mo hown hK ho hL ⟨Nat.le_refl _, Nat.le_add_right _ _⟩ rfl 0 (by decide) (htb _ mw_463) (fun _ h9 => h9) rfl (by decide +kernel) rfl rfl (Nat.le_of_ble_eq_true rfl) d_Mo_path_15 (fun Ht locs hf5 hc6 hL => ?_)
  have hf5 : va_at D x_cl (b, .inr (8, [.int 1, .ref (b + 1), .ref (b + 2), .int (nI S.1.length), .int (nI S.2.1.length), .ref (b + 3), .ref (b + 4), .ref (b + 5), .ref (b + 6), .ref (b + 7), .ref (b + 8), .int (nI S.2.2.1.length), .int (nI S.2.2.2.1.length), .int (nI S.2.2.2.2.1.length), .int (nI S.2.2.2.2.2.1), .ref (b + 9), .ref (b + 10), .ref (b + 11), .int (nI S.2.2.2.2.2.2.length), .ref (b + 12), .ref (b + 13), .ref (b + 14), .ref (b + 15)])) Ht := hf5
  have ho : m_O D b 1 (nI S.1.length) (nI S.2.1.length) (nI S.2.2.1.length) (nI S.2.2.2.1.length) (nI S.2.2.2.2.1.length) (nI S.2.2.2.2.2.1) (nI S.2.2.2.2.2.2.length) Ht := hf5
  have hR := hR.but0 hc6
  have hM := hM.trans (m_K.but0 hc6)
  refine lv_aload_n hx hb d_Mo_path_18 rfl (lv_at hl 0 rfl) ?_
  refine x_get (ci := 8) (T := T_Mo) hx hb htb u_Mo hown hK ho rfl 0 (by decide) (htb _ mw_463) (fun _ h9 => h9) (v := .int 1) rfl d_Mo_path_19 ?_
  refine lv_if_le (tgt := 27) hx hb d_Mo_path_22 (by decide) (fun c9 => absurd c9 (by decide)) (fun _ => ?_)
  refine lv_iconst (v := 0) hx hb d_Mo_path_25 (by decide) ?_
  exact x_iret hx hb hr hlocks rfl ⟨m_M.th ho hR hV rfl rfl rfl rfl rfl rfl rfl, hM⟩ hL (Nat.le_refl _) (Nat.le_refl _) d_Mo_path_26
set_option maxHeartbeats 4000000 in
set_option maxRecDepth 100000 in
theorem c_Mo_path (l : Launch) {D : va_G} {A : Nat → ClassId} {H0 : Heap} {b : Nat} {th : Int32} {S : m_S} (h : m_M D A b th S H0) (hlen : S.1.length ≤ 100) : Met l y_Mo_path w_Mo_path { frames := 0, cells := 0, slots := 0, locals := 0 } (x_Pc D A [.ref b] H0) (x_Q (some (.int (nI S.1.length))) (fun H1 => m_M D A b 0 ([], S.1, S.2.2.1, S.2.2.2.1, S.2.2.2.2.1, S.2.2.2.2.2.1, S.2.2.2.2.2.2) H1 ∧ m_K b H0 H1)) 0 0 (m_fq b) := by
  refine Met.ofW (cc := prog_10_method_4_code) (maxL := 2) (ret := (some .int)) (by decide) rfl ?_
  intro p e s m args below meth c s₁ B hml hv
  obtain ⟨rfl, hH, hK, hN⟩ := hv
  obtain ⟨hx, hb, hr, htb, hown, hlocks⟩ := x_start (wd := Cond.code y_Mo_path prog_10_method_4_code 2 (some .int)) B
  have hl := lv_entry ([.ref b]) (n := 2) (Nat.le_of_ble_eq_true rfl)
  rw [lg_entry_eq]
  generalize (lg_sl ([.ref b]) ++ List.replicate (2 - (lg_sl ([.ref b])).length) Slot.unset).toArray = ls at hl ⊢
  have hl : lv_has ls 2 [(0, .ref b)] := hl
  rw [hH]
  obtain ⟨G, ho, hR, hV⟩ := h
  obtain ⟨w1, w2, ⟨w3, w4⟩, ⟨w5, w6⟩, ⟨w7, w8⟩, w9, w10⟩ := id hV
  have hM : m_K b H0 H0 := m_K.refl
  have hL : ∀ q ∈ ([] : List Loc), m_fq b q.base := fun q hq => by cases hq
  refine lv_aload_n hx hb d_Mo_path_0 rfl (lv_at hl 0 rfl) ?_
  refine lv_aload_n hx hb d_Mo_path_1 rfl (lv_at hl 0 rfl) ?_
  refine x_get (ci := 8) (T := T_Mo) hx hb htb u_Mo hown hK ho rfl 3 (by decide) (htb _ mw_466) (fun _ h9 => h9) (v := .int (nI S.1.length)) rfl d_Mo_path_2 ?_
  refine lv_bipush (v := 100) hx hb d_Mo_path_5 (by decide) ?_
  refine lv_icmp_le (tgt := 14) hx hb d_Mo_path_7 (by decide) (fun _ => ?_) (fun c9 => absurd (nI_le (b := 100) hlen (by decide)) c9)
  refine lv_iconst (v := 0) hx hb d_Mo_path_14 (by decide) ?_
  refine x_put (F := m_fq b) (ci := 8) (v := .int 0) (ty := .int) (T := T_Mo) hx hb htb u_Mo t_Mo t_Mo_ok n_Mo hown hK ho hL ⟨Nat.le_refl _, Nat.le_add_right _ _⟩ rfl 0 (by decide) (htb _ mw_463) (fun _ h9 => h9) rfl (by decide +kernel) rfl rfl (Nat.le_of_ble_eq_true rfl) d_Mo_path_15 (fun Ht locs hf7 hc8 hL => ?_)
  have hf7 : va_at D x_cl (b, .inr (8, [.int 0, .ref (b + 1), .ref (b + 2), .int (nI S.1.length), .int (nI S.2.1.length), .ref (b + 3), .ref (b + 4), .ref (b + 5), .ref (b + 6), .ref (b + 7), .ref (b + 8), .int (nI S.2.2.1.length), .int (nI S.2.2.2.1.length), .int (nI S.2.2.2.2.1.length), .int (nI S.2.2.2.2.2.1), .ref (b + 9), .ref (b + 10), .ref (b + 11), .int (nI S.2.2.2.2.2.2.length), .ref (b + 12), .ref (b + 13), .ref (b + 14), .ref (b + 15)])) Ht := hf7
  have ho : m_O D b 0 (nI S.1.length) (nI S.2.1.length) (nI S.2.2.1.length) (nI S.2.2.2.1.length) (nI S.2.2.2.2.1.length) (nI S.2.2.2.2.2.1) (nI S.2.2.2.2.2.2.length) Ht := hf7
  have hR := hR.but0 hc8
  have hM := hM.trans (m_K.but0 hc8)
  refine lv_aload_n hx hb d_Mo_path_18 rfl (lv_at hl 0 rfl) ?_
  refine x_get (ci := 8) (T := T_Mo) hx hb htb u_Mo hown hK ho rfl 0 (by decide) (htb _ mw_463) (fun _ h9 => h9) (v := .int 0) rfl d_Mo_path_19 ?_
  refine lv_if_le (tgt := 27) hx hb d_Mo_path_22 (by decide) (fun _ => ?_) (fun c9 => absurd (by decide) c9)
  refine lv_iconst (v := 0) hx hb d_Mo_path_27 (by decide) ?_
  refine lv_istore_n (lv' := [(1, .int 0), (0, .ref b)]) hx hb d_Mo_path_28 rfl hl (by decide) rfl (fun ls hl => ?_)
  refine x_loop (σ := Nat × m_G × Heap × List Loc × Array Slot) (fun z => F0 m 29 z.2.2.2.2 []) (fun z => z.2.2.1) (fun z => z.2.2.2.1) (fun z => z.1 ≤ S.1.length ∧ m_O D b 0 (nI S.1.length) (nI S.2.1.length) (nI S.2.2.1.length) (nI S.2.2.2.1.length) (nI S.2.2.2.2.1.length) (nI S.2.2.2.2.2.1) (nI S.2.2.2.2.2.2.length) z.2.2.1 ∧ m_R D A b z.2.1 z.2.2.1 ∧ m_K b H0 z.2.2.1 ∧ (∀ q ∈ z.2.2.2.1, m_fq b q.base) ∧ (∀ k, k ≠ 2 → z.2.1 k = G k) ∧ (∀ q, q < z.1 → z.2.1 2 q = sb_b (S.1.getD q 0)) ∧ lv_has z.2.2.2.2 2 [(1, .int (nI z.1)), (0, .ref b)]) (fun z => S.1.length - z.1) (s0 := (0, G, Ht, _, ls)) ⟨Nat.zero_le _, ho, hR, hM, hL, (fun _ _ => rfl), (fun q hq => absurd hq (Nat.not_lt_zero q)), (lv_sub hl [0, 1] rfl)⟩ ?_
  clear hR ho hM hL hl
  rintro ⟨k, G5, H, locs, ls⟩ ⟨hk, ho, hR, hM, hL, hu, hp, hl⟩ ih
  dsimp only at hk ho hR hM hL hu hp hl ih ⊢
  refine lv_iload_n hx hb d_Mo_path_29 rfl (lv_at hl 0 rfl) ?_
  refine lv_aload_n hx hb d_Mo_path_30 rfl (lv_at hl 1 rfl) ?_
  refine x_get (ci := 8) (T := T_Mo) hx hb htb u_Mo hown hK ho rfl 3 (by decide) (htb _ mw_466) (fun _ h9 => h9) (v := .int (nI S.1.length)) rfl d_Mo_path_31 ?_
  refine lv_icmp_ge (tgt := 55) hx hb d_Mo_path_34 (by decide) (fun c1 => ?_) (fun c1 => ?_)
  · have e1 : k = S.1.length := Nat.le_antisymm hk (Nat.le_of_not_lt fun q => absurd c1 (nI_ge q (by omega)))
    subst e1
    clear ih
    refine lv_aload_n hx hb d_Mo_path_55 rfl (lv_at hl 1 rfl) ?_
    refine lv_aload_n hx hb d_Mo_path_56 rfl (lv_at hl 1 rfl) ?_
    refine x_get (ci := 8) (T := T_Mo) hx hb htb u_Mo hown hK ho rfl 3 (by decide) (htb _ mw_466) (fun _ h9 => h9) (v := .int (nI S.1.length)) rfl d_Mo_path_57 ?_
    refine x_put (F := m_fq b) (ci := 8) (v := .int (nI S.1.length)) (ty := .int) (T := T_Mo) hx hb htb u_Mo t_Mo t_Mo_ok n_Mo hown hK ho hL ⟨Nat.le_refl _, Nat.le_add_right _ _⟩ rfl 4 (by decide) (htb _ mw_467) (fun _ h9 => h9) rfl (by decide +kernel) rfl rfl (Nat.le_of_ble_eq_true rfl) d_Mo_path_60 (fun H6 locs hf9 hc10 hL => ?_)
    have hf9 : va_at D x_cl (b, .inr (8, [.int 0, .ref (b + 1), .ref (b + 2), .int (nI S.1.length), .int (nI S.1.length), .ref (b + 3), .ref (b + 4), .ref (b + 5), .ref (b + 6), .ref (b + 7), .ref (b + 8), .int (nI S.2.2.1.length), .int (nI S.2.2.2.1.length), .int (nI S.2.2.2.2.1.length), .int (nI S.2.2.2.2.2.1), .ref (b + 9), .ref (b + 10), .ref (b + 11), .int (nI S.2.2.2.2.2.2.length), .ref (b + 12), .ref (b + 13), .ref (b + 14), .ref (b + 15)])) H6 := hf9
    have ho : m_O D b 0 (nI S.1.length) (nI S.1.length) (nI S.2.2.1.length) (nI S.2.2.2.1.length) (nI S.2.2.2.2.1.length) (nI S.2.2.2.2.2.1) (nI S.2.2.2.2.2.2.length) H6 := hf9
    have hR := hR.but0 hc10
    have hM := hM.trans (m_K.but0 hc10)
    refine lv_aload_n hx hb d_Mo_path_63 rfl (lv_at hl 1 rfl) ?_
    refine lv_iconst (v := 0) hx hb d_Mo_path_64 (by decide) ?_
    refine x_put (F := m_fq b) (ci := 8) (v := .int 0) (ty := .int) (T := T_Mo) hx hb htb u_Mo t_Mo t_Mo_ok n_Mo hown hK ho hL ⟨Nat.le_refl _, Nat.le_add_right _ _⟩ rfl 3 (by decide) (htb _ mw_466) (fun _ h9 => h9) rfl (by decide +kernel) rfl rfl (Nat.le_of_ble_eq_true rfl) d_Mo_path_65 (fun H7 locs hf11 hc12 hL => ?_)
    have hf11 : va_at D x_cl (b, .inr (8, [.int 0, .ref (b + 1), .ref (b + 2), .int 0, .int (nI S.1.length), .ref (b + 3), .ref (b + 4), .ref (b + 5), .ref (b + 6), .ref (b + 7), .ref (b + 8), .int (nI S.2.2.1.length), .int (nI S.2.2.2.1.length), .int (nI S.2.2.2.2.1.length), .int (nI S.2.2.2.2.2.1), .ref (b + 9), .ref (b + 10), .ref (b + 11), .int (nI S.2.2.2.2.2.2.length), .ref (b + 12), .ref (b + 13), .ref (b + 14), .ref (b + 15)])) H7 := hf11
    have ho : m_O D b 0 0 (nI S.1.length) (nI S.2.2.1.length) (nI S.2.2.2.1.length) (nI S.2.2.2.2.1.length) (nI S.2.2.2.2.2.1) (nI S.2.2.2.2.2.2.length) H7 := hf11
    have hR := hR.but0 hc12
    have hM := hM.trans (m_K.but0 hc12)
    refine lv_aload_n hx hb d_Mo_path_68 rfl (lv_at hl 1 rfl) ?_
    refine x_get (ci := 8) (T := T_Mo) hx hb htb u_Mo hown hK ho rfl 4 (by decide) (htb _ mw_467) (fun _ h9 => h9) (v := .int (nI S.1.length)) rfl d_Mo_path_69 ?_
    have ue : ∀ e f, m_e G e f → m_e G5 e f := fun e f h => by unfold m_e at *; rw [hu 3 (by decide), hu 4 (by decide), hu 5 (by decide), hu 6 (by decide), hu 7 (by decide), hu 8 (by decide)]; exact h
    have hV5 : m_V G5 ([], S.1, S.2.2.1, S.2.2.2.1, S.2.2.2.2.1, S.2.2.2.2.2.1, S.2.2.2.2.2.2) := ⟨m_row.nil, ⟨hlen, hp, w1.2.2⟩, ⟨fun i f h => ue _ f (w3 i f h), w4⟩, ⟨fun i f h => ue _ f (w5 i f h), w6⟩, ⟨fun i o h => ⟨(congrFun (hu 9 (by decide)) i).trans (w7 i o h).1, (congrFun (hu 10 (by decide)) i).trans (w7 i o h).2.1, (congrFun (hu 11 (by decide)) i).trans (w7 i o h).2.2.1, ue _ _ (w7 i o h).2.2.2⟩, w8⟩, w9.eq (hu 12 (by decide)) (hu 13 (by decide)) (hu 15 (by decide)), w10⟩
    exact x_iret hx hb hr hlocks rfl ⟨m_M.th ho hR hV5 rfl rfl rfl rfl rfl rfl rfl, hM⟩ hL (Nat.le_refl _) (Nat.le_refl _) d_Mo_path_72
  · have hlt : k < S.1.length := Nat.lt_of_not_le fun q => absurd (nI_le q (by omega)) c1
    refine lv_aload_n hx hb d_Mo_path_37 rfl (lv_at hl 1 rfl) ?_
    refine x_get (ci := 8) (T := T_Mo) hx hb htb u_Mo hown hK ho rfl 2 (by decide) (htb _ mw_465) (fun _ h9 => h9) (v := .ref (b + 2)) rfl d_Mo_path_38 ?_
    refine lv_iload_n hx hb d_Mo_path_41 rfl (lv_at hl 0 rfl) ?_
    refine lv_aload_n hx hb d_Mo_path_42 rfl (lv_at hl 1 rfl) ?_
    refine x_get (ci := 8) (T := T_Mo) hx hb htb u_Mo hown hK ho rfl 1 (by decide) (htb _ mw_464) (fun _ h9 => h9) (v := .ref (b + 1)) rfl d_Mo_path_43 ?_
    refine lv_iload_n hx hb d_Mo_path_46 rfl (lv_at hl 0 rfl) ?_
    refine m_bld hx hb hK hR 1 (by decide) (by decide) rfl (i := k) (show _ < 400 by omega) d_Mo_path_47 ?_
    refine x_top (y := sb_b (S.1.getD k 0)) ((congrFun (hu 1 (by decide)) k).trans (w1.2.1 k hlt)) ?_
    refine m_bst hx hb hK ho hM hL hR 2 (by decide) (by decide) rfl (i := k) (show _ < 100 by omega) (m_nar _) d_Mo_path_48 (fun H7 locs ho hM hL hR => ?_)
    obtain ⟨G7, eG7⟩ : ∃ Gq : m_G, Gq = m_up G5 2 (upd (G5 2) k (sb_b (S.1.getD k 0))) := ⟨_, rfl⟩
    rw [← eG7] at hR
    have uG7 : ∀ j, j ≠ 2 → G7 j = G5 j := fun j h => by rw [eG7]; exact m_up_ne _ _ h
    have sG7 : G7 2 = upd (G5 2) k (sb_b (S.1.getD k 0)) := by rw [eG7]; exact m_up_self _ _ _
    refine lv_iinc (v := nI (k + 1)) (lv' := [(1, .int (nI (k + 1))), (0, .ref b)]) hx hb d_Mo_path_49 hl (k := 0) rfl (nI_1 k) (by decide) rfl (fun ls hl => ?_)
    refine lv_goto (tgt := 29) hx hb d_Mo_path_52 (by decide) ?_
    refine ih (k + 1, G7, H7, locs, ls) ⟨hlt, ho, hR, hM, hL, (fun j hj => (uG7 j hj).trans (hu j hj)), fun q hq => ?_, (lv_sub hl [0, 1] rfl)⟩ (by show S.1.length - (k + 1) < S.1.length - k; omega)
    have hq : q < k + 1 := hq
    show G7 2 q = _
    rw [sG7]
    rcases Nat.eq_or_lt_of_le (Nat.le_of_lt_succ hq) with e | e
    · subst e; rw [pk_us]
    · rw [pk_un (by omega)]; exact hp q e
set_option maxHeartbeats 4000000 in
set_option maxRecDepth 100000 in
theorem c_Mo_putN (l : Launch) {D : va_G} {A : Nat → ClassId} {H0 : Heap} {b : Nat} {th : Int32} {S : m_S} (h : m_M D A b th S H0) (v : Int64) {x : Int32} (hbad : x < 0 ∨ 8 < x ∨ nI (400 - S.1.length) < x) : Met l y_Mo_put w_Mo_put { frames := 0, cells := 0, slots := 0, locals := 0 } (x_Pc D A [.ref b, .long v, .int x] H0) (x_Q (some (.int 0)) (fun H1 => m_M D A b 0 S H1 ∧ m_K b H0 H1)) 0 0 (m_fq b) := by
  refine Met.ofW (cc := prog_10_method_3_code) (maxL := 5) (ret := (some .boolean)) (by decide) rfl ?_
  intro p e s m args below meth c s₁ B hml hv
  obtain ⟨rfl, hH, hK, hN⟩ := hv
  obtain ⟨hx, hb, hr, htb, hown, hlocks⟩ := x_start (wd := Cond.code y_Mo_put prog_10_method_3_code 5 (some .boolean)) B
  have hl := lv_entry ([.ref b, .long v, .int x]) (n := 5) (Nat.le_of_ble_eq_true rfl)
  rw [lg_entry_eq]
  generalize (lg_sl ([.ref b, .long v, .int x]) ++ List.replicate (5 - (lg_sl ([.ref b, .long v, .int x])).length) Slot.unset).toArray = ls at hl ⊢
  have hl : lv_has ls 5 [(0, .ref b), (1, .long v), (3, .int x)] := hl
  rw [hH]
  obtain ⟨G, ho, hR, hV⟩ := h
  obtain ⟨w1, w2, ⟨w3, w4⟩, ⟨w5, w6⟩, ⟨w7, w8⟩, w9, w10⟩ := id hV
  have hM : m_K b H0 H0 := m_K.refl
  have hL : ∀ q ∈ ([] : List Loc), m_fq b q.base := fun q hq => by cases hq
  refine lv_aload_n hx hb d_Mo_put_0 rfl (lv_at hl 0 rfl) ?_
  refine lv_iconst (v := 0) hx hb d_Mo_put_1 (by decide) ?_
  refine x_put (F := m_fq b) (ci := 8) (v := .int 0) (ty := .int) (T := T_Mo) hx hb htb u_Mo t_Mo t_Mo_ok n_Mo hown hK ho hL ⟨Nat.le_refl _, Nat.le_add_right _ _⟩ rfl 0 (by decide) (htb _ mw_463) (fun _ h9 => h9) rfl (by decide +kernel) rfl rfl (Nat.le_of_ble_eq_true rfl) d_Mo_put_2 (fun Ht locs hf13 hc14 hL => ?_)
  have hf13 : va_at D x_cl (b, .inr (8, [.int 0, .ref (b + 1), .ref (b + 2), .int (nI S.1.length), .int (nI S.2.1.length), .ref (b + 3), .ref (b + 4), .ref (b + 5), .ref (b + 6), .ref (b + 7), .ref (b + 8), .int (nI S.2.2.1.length), .int (nI S.2.2.2.1.length), .int (nI S.2.2.2.2.1.length), .int (nI S.2.2.2.2.2.1), .ref (b + 9), .ref (b + 10), .ref (b + 11), .int (nI S.2.2.2.2.2.2.length), .ref (b + 12), .ref (b + 13), .ref (b + 14), .ref (b + 15)])) Ht := hf13
  have ho : m_O D b 0 (nI S.1.length) (nI S.2.1.length) (nI S.2.2.1.length) (nI S.2.2.2.1.length) (nI S.2.2.2.2.1.length) (nI S.2.2.2.2.2.1) (nI S.2.2.2.2.2.2.length) Ht := hf13
  have hR := hR.but0 hc14
  have hM := hM.trans (m_K.but0 hc14)
  refine lv_iload_n hx hb d_Mo_put_5 rfl (lv_at hl 2 rfl) ?_
  refine lv_if_lt (tgt := 27) hx hb d_Mo_put_6 (by decide) (fun c1 => ?_) (fun c1 => ?_)
  · refine lv_iconst (v := 0) hx hb d_Mo_put_27 (by decide) ?_
    exact x_zret hx hb hr hlocks rfl (by decide) ⟨m_M.th ho hR hV rfl rfl rfl rfl rfl rfl rfl, hM⟩ hL (Nat.le_refl _) (Nat.le_refl _) d_Mo_put_28
  · refine lv_iload_n hx hb d_Mo_put_9 rfl (lv_at hl 2 rfl) ?_
    refine lv_bipush (v := 8) hx hb d_Mo_put_10 (by decide) ?_
    refine lv_icmp_gt (tgt := 27) hx hb d_Mo_put_12 (by decide) (fun c2 => ?_) (fun c2 => ?_)
    · refine lv_iconst (v := 0) hx hb d_Mo_put_27 (by decide) ?_
      exact x_zret hx hb hr hlocks rfl (by decide) ⟨m_M.th ho hR hV rfl rfl rfl rfl rfl rfl rfl, hM⟩ hL (Nat.le_refl _) (Nat.le_refl _) d_Mo_put_28
    · obtain ⟨j, hj, rfl⟩ := nI_of c1
      have w11 := w1.1
      have hj8 : j ≤ 8 := Nat.le_of_not_lt fun q => c2 (nI_lt (a := 8) q hj)
      have h3 : 400 - S.1.length < j := (nI_ltI (by omega) hj).mp ((hbad.resolve_left c1).resolve_left c2)
      refine lv_aload_n hx hb d_Mo_put_15 rfl (lv_at hl 0 rfl) ?_
      refine x_get (ci := 8) (T := T_Mo) hx hb htb u_Mo hown hK ho rfl 3 (by decide) (htb _ mw_466) (fun _ h9 => h9) (v := .int (nI S.1.length)) rfl d_Mo_put_16 ?_
      refine lv_iload_n hx hb d_Mo_put_19 rfl (lv_at hl 2 rfl) ?_
      refine lv_iadd hx hb d_Mo_put_20 ?_
      refine x_top (y := nI (S.1.length + j)) (nI_add _ _) ?_
      refine lv_sipush (v := 400) hx hb d_Mo_put_21 (by decide) ?_
      refine lv_icmp_le (tgt := 29) hx hb d_Mo_put_24 (by decide) (fun c9 => absurd c9 (nI_ge (a := 400) (b := S.1.length + j) (by omega) (by omega))) (fun _ => ?_)
      refine lv_iconst (v := 0) hx hb d_Mo_put_27 (by decide) ?_
      exact x_zret hx hb hr hlocks rfl (by decide) ⟨m_M.th ho hR hV rfl rfl rfl rfl rfl rfl rfl, hM⟩ hL (Nat.le_refl _) (Nat.le_refl _) d_Mo_put_28
set_option maxHeartbeats 4000000 in
set_option maxRecDepth 100000 in
theorem c_Mo_put (l : Launch) {D : va_G} {A : Nat → ClassId} {H0 : Heap} {b : Nat} {th : Int32} {S : m_S} (h : m_M D A b th S H0) (v : Int64) {n : Nat} (hn : n ≤ 8) (hr2 : S.1.length + n ≤ 400) : Met l y_Mo_put w_Mo_put { frames := 0, cells := 0, slots := 0, locals := 0 } (x_Pc D A [.ref b, .long v, .int (nI n)] H0) (x_Q (some (.int 1)) (fun H1 => m_M D A b 0 (S.1 ++ g_puts v n 0, S.2.1, S.2.2.1, S.2.2.2.1, S.2.2.2.2.1, S.2.2.2.2.2.1, S.2.2.2.2.2.2) H1 ∧ m_K b H0 H1)) 0 0 (m_fq b) := by
  refine Met.ofW (cc := prog_10_method_3_code) (maxL := 5) (ret := (some .boolean)) (by decide) rfl ?_
  intro p e s m args below meth c s₁ B hml hv
  obtain ⟨rfl, hH, hK, hN⟩ := hv
  obtain ⟨hx, hb, hr, htb, hown, hlocks⟩ := x_start (wd := Cond.code y_Mo_put prog_10_method_3_code 5 (some .boolean)) B
  have hl := lv_entry ([.ref b, .long v, .int (nI n)]) (n := 5) (Nat.le_of_ble_eq_true rfl)
  rw [lg_entry_eq]
  generalize (lg_sl ([.ref b, .long v, .int (nI n)]) ++ List.replicate (5 - (lg_sl ([.ref b, .long v, .int (nI n)])).length) Slot.unset).toArray = ls at hl ⊢
  have hl : lv_has ls 5 [(0, .ref b), (1, .long v), (3, .int (nI n))] := hl
  rw [hH]
  obtain ⟨G, ho, hR, hV⟩ := h
  obtain ⟨w1, w2, ⟨w3, w4⟩, ⟨w5, w6⟩, ⟨w7, w8⟩, w9, w10⟩ := id hV
  have hM : m_K b H0 H0 := m_K.refl
  have hL : ∀ q ∈ ([] : List Loc), m_fq b q.base := fun q hq => by cases hq
  refine lv_aload_n hx hb d_Mo_put_0 rfl (lv_at hl 0 rfl) ?_
  refine lv_iconst (v := 0) hx hb d_Mo_put_1 (by decide) ?_
  refine x_put (F := m_fq b) (ci := 8) (v := .int 0) (ty := .int) (T := T_Mo) hx hb htb u_Mo t_Mo t_Mo_ok n_Mo hown hK ho hL ⟨Nat.le_refl _, Nat.le_add_right _ _⟩ rfl 0 (by decide) (htb _ mw_463) (fun _ h9 => h9) rfl (by decide +kernel) rfl rfl (Nat.le_of_ble_eq_true rfl) d_Mo_put_2 (fun Ht locs hf15 hc16 hL => ?_)
  have hf15 : va_at D x_cl (b, .inr (8, [.int 0, .ref (b + 1), .ref (b + 2), .int (nI S.1.length), .int (nI S.2.1.length), .ref (b + 3), .ref (b + 4), .ref (b + 5), .ref (b + 6), .ref (b + 7), .ref (b + 8), .int (nI S.2.2.1.length), .int (nI S.2.2.2.1.length), .int (nI S.2.2.2.2.1.length), .int (nI S.2.2.2.2.2.1), .ref (b + 9), .ref (b + 10), .ref (b + 11), .int (nI S.2.2.2.2.2.2.length), .ref (b + 12), .ref (b + 13), .ref (b + 14), .ref (b + 15)])) Ht := hf15
  have ho : m_O D b 0 (nI S.1.length) (nI S.2.1.length) (nI S.2.2.1.length) (nI S.2.2.2.1.length) (nI S.2.2.2.2.1.length) (nI S.2.2.2.2.2.1) (nI S.2.2.2.2.2.2.length) Ht := hf15
  have hR := hR.but0 hc16
  have hM := hM.trans (m_K.but0 hc16)
  refine lv_iload_n hx hb d_Mo_put_5 rfl (lv_at hl 2 rfl) ?_
  refine lv_if_lt (tgt := 27) hx hb d_Mo_put_6 (by decide) (fun c9 => absurd c9 (nI_pos (by omega))) (fun _ => ?_)
  refine lv_iload_n hx hb d_Mo_put_9 rfl (lv_at hl 2 rfl) ?_
  refine lv_bipush (v := 8) hx hb d_Mo_put_10 (by decide) ?_
  refine lv_icmp_gt (tgt := 27) hx hb d_Mo_put_12 (by decide) (fun c9 => absurd c9 (nI_nlt (a := 8) (b := n) hn (by omega))) (fun _ => ?_)
  refine lv_aload_n hx hb d_Mo_put_15 rfl (lv_at hl 0 rfl) ?_
  refine x_get (ci := 8) (T := T_Mo) hx hb htb u_Mo hown hK ho rfl 3 (by decide) (htb _ mw_466) (fun _ h9 => h9) (v := .int (nI S.1.length)) rfl d_Mo_put_16 ?_
  refine lv_iload_n hx hb d_Mo_put_19 rfl (lv_at hl 2 rfl) ?_
  refine lv_iadd hx hb d_Mo_put_20 ?_
  refine x_top (y := nI (S.1.length + n)) (nI_add _ _) ?_
  refine lv_sipush (v := 400) hx hb d_Mo_put_21 (by decide) ?_
  refine lv_icmp_le (tgt := 29) hx hb d_Mo_put_24 (by decide) (fun _ => ?_) (fun c9 => absurd (nI_le (b := 400) hr2 (by decide)) c9)
  refine lv_iload_n hx hb d_Mo_put_29 rfl (lv_at hl 2 rfl) ?_
  refine lv_iconst (v := 1) hx hb d_Mo_put_30 (by decide) ?_
  refine lv_isub hx hb d_Mo_put_31 ?_
  refine lv_istore (lv' := [(4, .int ((nI n) - 1)), (0, .ref b), (1, .long v), (3, .int (nI n))]) hx hb d_Mo_put_32 hl (by decide) rfl (fun ls hl => ?_)
  have ho : m_O D b 0 (nI (S.1 ++ g_puts v n n).length) (nI S.2.1.length) (nI S.2.2.1.length) (nI S.2.2.2.1.length) (nI S.2.2.2.2.1.length) (nI S.2.2.2.2.2.1) (nI S.2.2.2.2.2.2.length) Ht := by rw [g_puts_0, List.append_nil]; exact ho
  refine x_loop (σ := Nat × m_G × Heap × List Loc × Array Slot) (fun z => F0 m 34 z.2.2.2.2 []) (fun z => z.2.2.1) (fun z => z.2.2.2.1) (fun z => z.1 ≤ n ∧ m_O D b 0 (nI (S.1 ++ g_puts v n z.1).length) (nI S.2.1.length) (nI S.2.2.1.length) (nI S.2.2.2.1.length) (nI S.2.2.2.2.1.length) (nI S.2.2.2.2.2.1) (nI S.2.2.2.2.2.2.length) z.2.2.1 ∧ m_R D A b z.2.1 z.2.2.1 ∧ m_K b H0 z.2.2.1 ∧ (∀ q ∈ z.2.2.2.1, m_fq b q.base) ∧ (∀ k, k ≠ 1 → z.2.1 k = G k) ∧ (∀ q, q < (S.1 ++ g_puts v n z.1).length → z.2.1 1 q = sb_b ((S.1 ++ g_puts v n z.1).getD q 0)) ∧ lv_has z.2.2.2.2 5 [(4, .int (nI z.1 - 1)), (0, .ref b), (1, .long v)]) (fun z => z.1) (s0 := (n, G, Ht, _, ls)) ⟨Nat.le_refl _, ho, hR, hM, hL, (fun _ _ => rfl), (by rw [g_puts_0, List.append_nil]; exact w1.2.1), (lv_sub hl [0, 1, 2] rfl)⟩ ?_
  clear hR ho hM hL hl
  rintro ⟨k, G5, H, locs, ls⟩ ⟨hk, ho, hR, hM, hL, hu, hp, hl⟩ ih
  dsimp only at hk ho hR hM hL hu hp hl ih ⊢
  have hlen : (S.1 ++ g_puts v n k).length = S.1.length + (n - k) := by rw [List.length_append, g_puts_len]
  refine lv_iload hx hb d_Mo_put_34 (lv_at hl 0 rfl) ?_
  refine lv_if_lt (tgt := 73) hx hb d_Mo_put_36 (by decide) (fun c1 => ?_) (fun c1 => ?_)
  · have e : k = 0 := by
      cases k with
      | zero => rfl
      | succ j => rw [nI_pred] at c1; exact absurd c1 (nI_pos (by omega))
    subst e
    refine lv_iconst (v := 1) hx hb d_Mo_put_73 (by decide) ?_
    have ue : ∀ e f, m_e G e f → m_e G5 e f := fun e f h => by unfold m_e at *; rw [hu 3 (by decide), hu 4 (by decide), hu 5 (by decide), hu 6 (by decide), hu 7 (by decide), hu 8 (by decide)]; exact h
    have hV5 : m_V G5 (S.1 ++ g_puts v n 0, S.2.1, S.2.2.1, S.2.2.2.1, S.2.2.2.2.1, S.2.2.2.2.2.1, S.2.2.2.2.2.2) := ⟨⟨by show (S.1 ++ g_puts v n 0).length ≤ 400; rw [hlen]; omega, hp, fun u hu => (List.mem_append.mp hu).elim (w1.2.2 u) (g_puts_lt u)⟩, w2.eq (hu 2 (by decide)), ⟨fun i f h => ue _ f (w3 i f h), w4⟩, ⟨fun i f h => ue _ f (w5 i f h), w6⟩, ⟨fun i o h => ⟨(congrFun (hu 9 (by decide)) i).trans (w7 i o h).1, (congrFun (hu 10 (by decide)) i).trans (w7 i o h).2.1, (congrFun (hu 11 (by decide)) i).trans (w7 i o h).2.2.1, ue _ _ (w7 i o h).2.2.2⟩, w8⟩, w9.eq (hu 12 (by decide)) (hu 13 (by decide)) (hu 15 (by decide)), w10⟩
    exact x_zret hx hb hr hlocks rfl (by decide) ⟨m_M.th ho hR hV5 rfl rfl rfl rfl rfl rfl rfl, hM⟩ hL (Nat.le_refl _) (Nat.le_refl _) d_Mo_put_74
  · obtain ⟨j, rfl⟩ : ∃ j, k = j + 1 := by
      cases k with
      | zero => exact absurd (by rw [nI_0]; decide) c1
      | succ j => exact ⟨j, rfl⟩
    rw [nI_pred] at hl
    have hst := g_puts_step (v := v) (n := n) (j := j) (by omega)
    refine lv_aload_n hx hb d_Mo_put_39 rfl (lv_at hl 1 rfl) ?_
    refine x_get (ci := 8) (T := T_Mo) hx hb htb u_Mo hown hK ho rfl 1 (by decide) (htb _ mw_464) (fun _ h9 => h9) (v := .ref (b + 1)) rfl d_Mo_put_40 ?_
    refine lv_aload_n hx hb d_Mo_put_43 rfl (lv_at hl 1 rfl) ?_
    refine x_get (ci := 8) (T := T_Mo) hx hb htb u_Mo hown hK ho rfl 3 (by decide) (htb _ mw_466) (fun _ h9 => h9) (v := .int (nI (S.1 ++ g_puts v n (j + 1)).length)) rfl d_Mo_put_44 ?_
    refine lv_lload_n hx hb d_Mo_put_47 rfl (lv_at hl 2 rfl) ?_
    refine lv_bipush (v := 8) hx hb d_Mo_put_48 (by decide) ?_
    refine lv_iload hx hb d_Mo_put_50 (lv_at hl 0 rfl) ?_
    refine lv_imul hx hb d_Mo_put_52 ?_
    refine x_top (y := nI (8 * j)) (pk_mul 8 j) ?_
    refine lv_lshr (v := v >>> ((nI (8 * j)).toInt64 &&& 63)) hx hb d_Mo_put_53 rfl ?_
    refine lv_l2i (v := (v >>> ((nI (8 * j)).toInt64 &&& 63)).toInt32) hx hb d_Mo_put_54 rfl ?_
    refine lv_i2b (v := sb_b (g_by v j)) hx hb d_Mo_put_55 (g_sshr v (by omega)) ?_
    refine m_bst hx hb hK ho hM hL hR 1 (by decide) (by decide) rfl (i := (S.1 ++ g_puts v n (j + 1)).length) (show _ < 400 by omega) (m_nar _) d_Mo_put_56 (fun H7 locs ho hM hL hR => ?_)
    obtain ⟨G7, eG7⟩ : ∃ Gq : m_G, Gq = m_up G5 1 (upd (G5 1) ((S.1 ++ g_puts v n (j + 1)).length) (sb_b (g_by v j))) := ⟨_, rfl⟩
    rw [← eG7] at hR
    have uG7 : ∀ j, j ≠ 1 → G7 j = G5 j := fun j h => by rw [eG7]; exact m_up_ne _ _ h
    have sG7 : G7 1 = upd (G5 1) ((S.1 ++ g_puts v n (j + 1)).length) (sb_b (g_by v j)) := by rw [eG7]; exact m_up_self _ _ _
    refine lv_aload_n hx hb d_Mo_put_57 rfl (lv_at hl 1 rfl) ?_
    refine lv_dup hx hb d_Mo_put_58 rfl ?_
    refine x_get (ci := 8) (T := T_Mo) hx hb htb u_Mo hown hK ho rfl 3 (by decide) (htb _ mw_466) (fun _ h9 => h9) (v := .int (nI (S.1 ++ g_puts v n (j + 1)).length)) rfl d_Mo_put_59 ?_
    refine lv_iconst (v := 1) hx hb d_Mo_put_62 (by decide) ?_
    refine lv_iadd hx hb d_Mo_put_63 ?_
    have e3 : (S.1 ++ g_puts v n j).length = (S.1 ++ g_puts v n (j + 1)).length + 1 := by rw [hst, ← List.append_assoc, List.length_append]; rfl
    refine x_top (y := nI (S.1 ++ g_puts v n j).length) (by rw [e3]; exact nI_1 _) ?_
    refine x_put (F := m_fq b) (ci := 8) (v := .int (nI (S.1 ++ g_puts v n j).length)) (ty := .int) (T := T_Mo) hx hb htb u_Mo t_Mo t_Mo_ok n_Mo hown hK ho hL ⟨Nat.le_refl _, Nat.le_add_right _ _⟩ rfl 3 (by decide) (htb _ mw_466) (fun _ h9 => h9) rfl (by decide +kernel) rfl rfl (Nat.le_of_ble_eq_true rfl) d_Mo_put_64 (fun H8 locs hf17 hc18 hL => ?_)
    have hf17 : va_at D x_cl (b, .inr (8, [.int 0, .ref (b + 1), .ref (b + 2), .int (nI (S.1 ++ g_puts v n j).length), .int (nI S.2.1.length), .ref (b + 3), .ref (b + 4), .ref (b + 5), .ref (b + 6), .ref (b + 7), .ref (b + 8), .int (nI S.2.2.1.length), .int (nI S.2.2.2.1.length), .int (nI S.2.2.2.2.1.length), .int (nI S.2.2.2.2.2.1), .ref (b + 9), .ref (b + 10), .ref (b + 11), .int (nI S.2.2.2.2.2.2.length), .ref (b + 12), .ref (b + 13), .ref (b + 14), .ref (b + 15)])) H8 := hf17
    have ho : m_O D b 0 (nI (S.1 ++ g_puts v n j).length) (nI S.2.1.length) (nI S.2.2.1.length) (nI S.2.2.2.1.length) (nI S.2.2.2.2.1.length) (nI S.2.2.2.2.2.1) (nI S.2.2.2.2.2.2.length) H8 := hf17
    have hR := hR.but0 hc18
    have hM := hM.trans (m_K.but0 hc18)
    refine lv_iinc (v := nI j - 1) (lv' := [(4, .int (nI j - 1)), (0, .ref b), (1, .long v)]) hx hb d_Mo_put_67 hl (k := 0) rfl (x_dec _) (by decide) rfl (fun ls hl => ?_)
    refine lv_goto (tgt := 34) hx hb d_Mo_put_70 (by decide) ?_
    refine ih (j, G7, H8, locs, ls) ⟨by show j ≤ n; omega, ho, hR, hM, hL, (fun i hi => (uG7 i hi).trans (hu i hi)), fun q hq => ?_, (lv_sub hl [0, 1, 2] rfl)⟩ (Nat.lt_succ_self j)
    have hq : q < (S.1 ++ g_puts v n j).length := hq
    show G7 1 q = sb_b ((S.1 ++ g_puts v n j).getD q 0)
    rw [e3] at hq
    rw [sG7, hst, ← List.append_assoc, g_app]
    by_cases hw : q < (S.1 ++ g_puts v n (j + 1)).length
    · rw [if_pos hw, pk_un (by omega)]; exact hp q hw
    · have e4 : q = (S.1 ++ g_puts v n (j + 1)).length := by omega
      rw [if_neg hw, e4, pk_us, Nat.sub_self]
      rfl
