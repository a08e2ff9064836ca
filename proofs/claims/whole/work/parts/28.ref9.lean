theorem m_fold {os : List m_P} {ks : List g_F} {k : Nat} {o : m_P} (h : os[k]? = some o) : (os.take (k + 1)).foldl m_act ks = m_act ((os.take k).foldl m_act ks) o := by
  rw [g_take h, List.foldl_append]
  rfl
theorem m_row.nil {g : Nat → Int32} {n : Nat} : m_row g [] n := ⟨Nat.zero_le _, fun k hk => absurd hk (Nat.not_lt_zero k), fun u hu => by cases hu⟩
theorem m_V.kept {G G1 : m_G} {S : m_S} {fs : List g_F} (hV : m_V G S) (hr : ∀ k, (k < 3 ∨ 8 < k) → G1 k = G k) (h0 : m_L G1 0 fs) (h60 : m_L G1 60 fs) (hl : fs.length ≤ 60) (al : Nat) : m_V G1 (S.1, S.2.1, fs, fs, [], al, S.2.2.2.2.2.2) := by
  obtain ⟨w1, w2, ⟨w3, w4⟩, ⟨w5, w6⟩, ⟨w7, w8⟩, w9, w10⟩ := hV
  exact ⟨w1.eq (hr 1 (by decide)), w2.eq (hr 2 (by decide)), ⟨h0, hl⟩, ⟨h60, hl⟩, ⟨fun i o h => by simp at h, Nat.zero_le _⟩, w9.eq (hr 12 (by decide)) (hr 13 (by decide)) (hr 15 (by decide)), w10⟩
theorem m_min {n : Int32} {d : Nat} (hn : ¬ n < 0) (hd : d < 2 ^ 31) : (n < nI d → n = nI (min n.toNatClampNeg d)) ∧ (¬ n < nI d → nI d = nI (min n.toNatClampNeg d)) := by
  obtain ⟨j, hj, rfl⟩ := nI_of hn
  rw [nI_clamp hj]
  constructor
  · intro h
    rw [Nat.min_eq_left (Nat.le_of_lt ((nI_ltI hj hd).mp h))]
  · intro h
    rw [Nat.min_eq_right (Nat.le_of_not_lt (fun q => h (nI_lt q hd)))]

set_option maxHeartbeats 4000000 in
set_option maxRecDepth 100000 in
theorem c_Mo_keep (l : Launch) {D : va_G} {A : Nat → ClassId} {H0 : Heap} {b : Nat} {v0 v1 v2 v4 v5 v6 v7 : Int32} {G : m_G} {fs : List g_F} (ho : m_O D b v0 v1 v2 (nI fs.length) v4 v5 v6 v7 H0) (hR : m_R D A b G H0) (hfl : fs.length ≤ 60) (hfs : m_L G 0 fs) : Met l y_Mo_keep w_Mo_keep { frames := 1, cells := 0, slots := 0, locals := 23 } (x_Pc D A [.ref b] H0) (x_Q none (fun H1 => ∃ G1 : m_G, m_O D b v0 v1 v2 (nI fs.length) (nI fs.length) 0 v6 v7 H1 ∧ m_R D A b G1 H1 ∧ m_K b H0 H1 ∧ m_L G1 0 fs ∧ m_L G1 60 fs ∧ ∀ k, (k < 3 ∨ 8 < k) → G1 k = G k)) 0 0 (m_fq b) := by
  refine Met.ofW (cc := prog_10_method_18_code) (maxL := 2) (ret := none) (by decide) rfl ?_
  intro p e s m args below meth c s₁ B hml hv
  obtain ⟨rfl, hH, hK, hN⟩ := hv
  obtain ⟨hx, hb, hr, htb, hown, hlocks⟩ := x_start (wd := Cond.code y_Mo_keep prog_10_method_18_code 2 none) B
  have hl := lv_entry ([.ref b]) (n := 2) (Nat.le_of_ble_eq_true rfl)
  rw [lg_entry_eq]
  generalize (lg_sl ([.ref b]) ++ List.replicate (2 - (lg_sl ([.ref b])).length) Slot.unset).toArray = ls at hl ⊢
  have hl : lv_has ls 2 [(0, .ref b)] := hl
  rw [hH]
  have hM : m_K b H0 H0 := m_K.refl
  have hL : ∀ q ∈ ([] : List Loc), m_fq b q.base := fun q hq => by cases hq
  refine lv_iconst (v := 0) hx hb d_Mo_keep_0 (by decide) ?_
  refine lv_istore_n (lv' := [(1, .int 0), (0, .ref b)]) hx hb d_Mo_keep_1 rfl hl (by decide) rfl (fun ls hl => ?_)
  refine x_loop (σ := Nat × m_G × Heap × List Loc × Array Slot) (fun z => F0 m 2 z.2.2.2.2 []) (fun z => z.2.2.1) (fun z => z.2.2.2.1) (fun z => z.1 ≤ fs.length ∧ m_O D b v0 v1 v2 (nI fs.length) v4 v5 v6 v7 z.2.2.1 ∧ m_R D A b z.2.1 z.2.2.1 ∧ m_K b H0 z.2.2.1 ∧ (∀ q ∈ z.2.2.2.1, m_fq b q.base) ∧ m_L z.2.1 0 fs ∧ (∀ i f, i < z.1 → fs[i]? = some f → m_e z.2.1 (i + 60) f) ∧ (∀ k, (k < 3 ∨ 8 < k) → z.2.1 k = G k) ∧ lv_has z.2.2.2.2 2 [(1, .int (nI z.1)), (0, .ref b)]) (fun z => fs.length - z.1) (s0 := (0, G, H0, _, ls)) ⟨Nat.zero_le _, ho, hR, hM, hL, hfs, (fun i f q => absurd q (Nat.not_lt_zero i)), (fun _ _ => rfl), (lv_sub hl [0, 1] rfl)⟩ ?_
  clear hR ho hM hL hl
  rintro ⟨k, G5, H, locs, ls⟩ ⟨hk, ho, hR, hM, hL, hfs, h60, hrw, hl⟩ ih
  dsimp only at hk ho hR hM hL hfs h60 hrw hl ih ⊢
  refine lv_iload_n hx hb d_Mo_keep_2 rfl (lv_at hl 0 rfl) ?_
  refine lv_aload_n hx hb d_Mo_keep_3 rfl (lv_at hl 1 rfl) ?_
  refine x_get (ci := 8) (T := T_Mo) hx hb htb u_Mo hown hK ho rfl 11 (by decide) (htb _ mw_474) (fun _ h9 => h9) (v := .int (nI fs.length)) rfl d_Mo_keep_4 ?_
  refine lv_icmp_ge (tgt := 25) hx hb d_Mo_keep_7 (by decide) (fun c1 => ?_) (fun c1 => ?_)
  · have e1 : k = fs.length := Nat.le_antisymm hk (Nat.le_of_not_lt fun q => absurd c1 (nI_ge q (by omega)))
    subst e1
    refine lv_aload_n hx hb d_Mo_keep_25 rfl (lv_at hl 1 rfl) ?_
    refine lv_aload_n hx hb d_Mo_keep_26 rfl (lv_at hl 1 rfl) ?_
    refine x_get (ci := 8) (T := T_Mo) hx hb htb u_Mo hown hK ho rfl 11 (by decide) (htb _ mw_474) (fun _ h9 => h9) (v := .int (nI fs.length)) rfl d_Mo_keep_27 ?_
    refine x_put (F := m_fq b) (ci := 8) (v := .int (nI fs.length)) (ty := .int) (T := T_Mo) hx hb htb u_Mo t_Mo t_Mo_ok n_Mo hown hK ho hL ⟨Nat.le_refl _, Nat.le_add_right _ _⟩ rfl 12 (by decide) (htb _ mw_475) (fun _ h9 => h9) rfl (by decide +kernel) rfl rfl (Nat.le_of_ble_eq_true rfl) d_Mo_keep_30 (fun H6 locs hf1 hc2 hL => ?_)
    have hf1 : va_at D x_cl (b, .inr (8, [.int v0, .ref (b + 1), .ref (b + 2), .int v1, .int v2, .ref (b + 3), .ref (b + 4), .ref (b + 5), .ref (b + 6), .ref (b + 7), .ref (b + 8), .int (nI fs.length), .int (nI fs.length), .int v5, .int v6, .ref (b + 9), .ref (b + 10), .ref (b + 11), .int v7, .ref (b + 12), .ref (b + 13), .ref (b + 14), .ref (b + 15)])) H6 := hf1
    have ho : m_O D b v0 v1 v2 (nI fs.length) (nI fs.length) v5 v6 v7 H6 := hf1
    have hR := hR.but0 hc2
    have hM := hM.trans (m_K.but0 hc2)
    refine lv_aload_n hx hb d_Mo_keep_33 rfl (lv_at hl 1 rfl) ?_
    refine lv_iconst (v := 0) hx hb d_Mo_keep_34 (by decide) ?_
    refine x_put (F := m_fq b) (ci := 8) (v := .int 0) (ty := .int) (T := T_Mo) hx hb htb u_Mo t_Mo t_Mo_ok n_Mo hown hK ho hL ⟨Nat.le_refl _, Nat.le_add_right _ _⟩ rfl 13 (by decide) (htb _ mw_476) (fun _ h9 => h9) rfl (by decide +kernel) rfl rfl (Nat.le_of_ble_eq_true rfl) d_Mo_keep_35 (fun H7 locs hf3 hc4 hL => ?_)
    have hf3 : va_at D x_cl (b, .inr (8, [.int v0, .ref (b + 1), .ref (b + 2), .int v1, .int v2, .ref (b + 3), .ref (b + 4), .ref (b + 5), .ref (b + 6), .ref (b + 7), .ref (b + 8), .int (nI fs.length), .int (nI fs.length), .int 0, .int v6, .ref (b + 9), .ref (b + 10), .ref (b + 11), .int v7, .ref (b + 12), .ref (b + 13), .ref (b + 14), .ref (b + 15)])) H7 := hf3
    have ho : m_O D b v0 v1 v2 (nI fs.length) (nI fs.length) 0 v6 v7 H7 := hf3
    have hR := hR.but0 hc4
    have hM := hM.trans (m_K.but0 hc4)
    exact x_vret hx hb hr hlocks ⟨G5, ho, hR, hM, hfs, fun i f h => h60 i f (List.getElem?_eq_some_iff.mp h).1 h, hrw⟩ hL (Nat.le_refl _) (Nat.le_refl _) d_Mo_keep_38
  · have hlt : k < fs.length := Nat.lt_of_not_le fun q => absurd (nI_le q (by omega)) c1
    obtain ⟨f, hff⟩ := g_ex hlt
    refine lv_aload_n hx hb d_Mo_keep_10 rfl (lv_at hl 1 rfl) ?_
    refine lv_iload_n hx hb d_Mo_keep_11 rfl (lv_at hl 0 rfl) ?_
    refine lv_bipush (v := 60) hx hb d_Mo_keep_12 (by decide) ?_
    refine lv_iload_n hx hb d_Mo_keep_14 rfl (lv_at hl 0 rfl) ?_
    refine lv_iadd hx hb d_Mo_keep_15 ?_
    refine x_top (y := nI (60 + k)) (nI_add 60 k) ?_
    refine x_call (F := m_fq b) (va_runV (As := [.int (nI k), .int (nI (60 + k))]) (rest := []) ⟨hx, hb, hml, hown, htb⟩ (c_Mo_copy l ho hR (i := k) (j := 60 + k) (by omega) (by omega) (by omega) (hfs k f hff)) (x_cV 2 htb mw_581 mw_6 mw_584 mw_583 ms_15 rfl rfl (by decide +kernel) ⟨Nat.le_of_ble_eq_true rfl, Nat.le_of_ble_eq_true rfl⟩) (x_preV hK hN ho rfl) rfl rfl hl.1 rfl (lv_room (Nat.le_of_ble_eq_true rfl)) d_Mo_keep_16 ⟨Nat.le_of_ble_eq_true rfl, Nat.le_of_ble_eq_true rfl⟩) hL (fun q hq => hq) (fun H7 locs hP hL => ?_)
    refine W.eq (g2 := F0 m 19 ls []) rfl ?_
    obtain ⟨G7, ho, hR, q3, q4, q5⟩ := hP
    have hM := hM.trans q3
    refine lv_iinc (v := nI (k + 1)) (lv' := [(1, .int (nI (k + 1))), (0, .ref b)]) hx hb d_Mo_keep_19 hl (k := 0) rfl (nI_1 k) (by decide) rfl (fun ls hl => ?_)
    refine lv_goto (tgt := 2) hx hb d_Mo_keep_22 (by decide) ?_
    refine ih (k + 1, G7, H7, locs, ls) ⟨hlt, ho, hR, hM, hL, q5.L (Or.inr (by omega)) hfs, fun i g q q2 => ?_, fun j hj => (q5.2 j hj).trans (hrw j hj), (lv_sub hl [0, 1] rfl)⟩ (by show fs.length - (k + 1) < fs.length - k; omega)
    have q : i < k + 1 := q
    rcases Nat.eq_or_lt_of_le (Nat.le_of_lt_succ q) with e | e
    · subst e; rw [hff] at q2; cases q2; rw [Nat.add_comm i 60]; exact q4
    · exact q5.e (by omega) (h60 i g e q2)
set_option maxHeartbeats 4000000 in
set_option maxRecDepth 100000 in
theorem c_Mo_sync (l : Launch) {D : va_G} {A : Nat → ClassId} {H0 : Heap} {b : Nat} {th : Int32} {S : m_S} (h : m_M D A b th S H0)  : Met l y_Mo_sync w_Mo_sync { frames := 2, cells := 0, slots := 0, locals := 44 } (x_Pc D A [.ref b] H0) (x_Q (some (.int (nI S.2.2.2.2.1.length))) (fun H1 => m_M D A b 0 (S.1, S.2.1, S.2.2.1, S.2.2.1, [], S.2.2.2.2.2.1 + 1, S.2.2.2.2.2.2) H1 ∧ m_K b H0 H1)) 0 0 (m_fq b) := by
  refine Met.ofW (cc := prog_10_method_19_code) (maxL := 2) (ret := (some .int)) (by decide) rfl ?_
  intro p e s m args below meth c s₁ B hml hv
  obtain ⟨rfl, hH, hK, hN⟩ := hv
  obtain ⟨hx, hb, hr, htb, hown, hlocks⟩ := x_start (wd := Cond.code y_Mo_sync prog_10_method_19_code 2 (some .int)) B
  have hl := lv_entry ([.ref b]) (n := 2) (Nat.le_of_ble_eq_true rfl)
  rw [lg_entry_eq]
  generalize (lg_sl ([.ref b]) ++ List.replicate (2 - (lg_sl ([.ref b])).length) Slot.unset).toArray = ls at hl ⊢
  have hl : lv_has ls 2 [(0, .ref b)] := hl
  rw [hH]
  obtain ⟨G, ho, hR, hV⟩ := h
  obtain ⟨w1, w2, ⟨w3, w4⟩, ⟨w5, w6⟩, ⟨w7, w8⟩, w9, w10⟩ := id hV
  have hM : m_K b H0 H0 := m_K.refl
  have hL : ∀ q ∈ ([] : List Loc), m_fq b q.base := fun q hq => by cases hq
  refine lv_aload_n hx hb d_Mo_sync_0 rfl (lv_at hl 0 rfl) ?_
  refine lv_iconst (v := 0) hx hb d_Mo_sync_1 (by decide) ?_
  refine x_put (F := m_fq b) (ci := 8) (v := .int 0) (ty := .int) (T := T_Mo) hx hb htb u_Mo t_Mo t_Mo_ok n_Mo hown hK ho hL ⟨Nat.le_refl _, Nat.le_add_right _ _⟩ rfl 0 (by decide) (htb _ mw_463) (fun _ h9 => h9) rfl (by decide +kernel) rfl rfl (Nat.le_of_ble_eq_true rfl) d_Mo_sync_2 (fun Ht locs hf5 hc6 hL => ?_)
  have hf5 : va_at D x_cl (b, .inr (8, [.int 0, .ref (b + 1), .ref (b + 2), .int (nI S.1.length), .int (nI S.2.1.length), .ref (b + 3), .ref (b + 4), .ref (b + 5), .ref (b + 6), .ref (b + 7), .ref (b + 8), .int (nI S.2.2.1.length), .int (nI S.2.2.2.1.length), .int (nI S.2.2.2.2.1.length), .int (nI S.2.2.2.2.2.1), .ref (b + 9), .ref (b + 10), .ref (b + 11), .int (nI S.2.2.2.2.2.2.length), .ref (b + 12), .ref (b + 13), .ref (b + 14), .ref (b + 15)])) Ht := hf5
  have ho : m_O D b 0 (nI S.1.length) (nI S.2.1.length) (nI S.2.2.1.length) (nI S.2.2.2.1.length) (nI S.2.2.2.2.1.length) (nI S.2.2.2.2.2.1) (nI S.2.2.2.2.2.2.length) Ht := hf5
  have hR := hR.but0 hc6
  have hM := hM.trans (m_K.but0 hc6)
  refine lv_aload_n hx hb d_Mo_sync_5 rfl (lv_at hl 0 rfl) ?_
  refine x_get (ci := 8) (T := T_Mo) hx hb htb u_Mo hown hK ho rfl 13 (by decide) (htb _ mw_476) (fun _ h9 => h9) (v := .int (nI S.2.2.2.2.1.length)) rfl d_Mo_sync_6 ?_
  refine lv_istore_n (lv' := [(1, .int (nI S.2.2.2.2.1.length)), (0, .ref b)]) hx hb d_Mo_sync_9 rfl hl (by decide) rfl (fun ls hl => ?_)
  refine lv_aload_n hx hb d_Mo_sync_10 rfl (lv_at hl 1 rfl) ?_
  refine x_call (F := m_fq b) (va_runV (As := []) (rest := []) ⟨hx, hb, hml, hown, htb⟩ (c_Mo_keep l ho hR w4 w3) (x_cV 0 htb mw_601 mw_6 mw_604 mw_603 ms_17 rfl rfl (by decide +kernel) ⟨Nat.le_of_ble_eq_true rfl, Nat.le_of_ble_eq_true rfl⟩) (x_preV hK hN ho rfl) rfl rfl hl.1 rfl (lv_room (Nat.le_of_ble_eq_true rfl)) d_Mo_sync_11 ⟨Nat.le_of_ble_eq_true rfl, Nat.le_of_ble_eq_true rfl⟩) hL (fun q hq => hq) (fun H2 locs hP hL => ?_)
  refine W.eq (g2 := F0 m 14 ls []) rfl ?_
  obtain ⟨G1, ho, hR, q3, q4, q5, q6⟩ := hP
  have hM := hM.trans q3
  refine lv_aload_n hx hb d_Mo_sync_14 rfl (lv_at hl 1 rfl) ?_
  refine lv_dup hx hb d_Mo_sync_15 rfl ?_
  refine x_get (ci := 8) (T := T_Mo) hx hb htb u_Mo hown hK ho rfl 14 (by decide) (htb _ mw_477) (fun _ h9 => h9) (v := .int (nI S.2.2.2.2.2.1)) rfl d_Mo_sync_16 ?_
  refine lv_iconst (v := 1) hx hb d_Mo_sync_19 (by decide) ?_
  refine lv_iadd hx hb d_Mo_sync_20 ?_
  refine x_top (y := nI (S.2.2.2.2.2.1 + 1)) (nI_1 _) ?_
  refine x_put (F := m_fq b) (ci := 8) (v := .int (nI (S.2.2.2.2.2.1 + 1))) (ty := .int) (T := T_Mo) hx hb htb u_Mo t_Mo t_Mo_ok n_Mo hown hK ho hL ⟨Nat.le_refl _, Nat.le_add_right _ _⟩ rfl 14 (by decide) (htb _ mw_477) (fun _ h9 => h9) rfl (by decide +kernel) rfl rfl (Nat.le_of_ble_eq_true rfl) d_Mo_sync_21 (fun H3 locs hf7 hc8 hL => ?_)
  have hf7 : va_at D x_cl (b, .inr (8, [.int 0, .ref (b + 1), .ref (b + 2), .int (nI S.1.length), .int (nI S.2.1.length), .ref (b + 3), .ref (b + 4), .ref (b + 5), .ref (b + 6), .ref (b + 7), .ref (b + 8), .int (nI S.2.2.1.length), .int (nI S.2.2.1.length), .int 0, .int (nI (S.2.2.2.2.2.1 + 1)), .ref (b + 9), .ref (b + 10), .ref (b + 11), .int (nI S.2.2.2.2.2.2.length), .ref (b + 12), .ref (b + 13), .ref (b + 14), .ref (b + 15)])) H3 := hf7
  have ho : m_O D b 0 (nI S.1.length) (nI S.2.1.length) (nI S.2.2.1.length) (nI S.2.2.1.length) 0 (nI (S.2.2.2.2.2.1 + 1)) (nI S.2.2.2.2.2.2.length) H3 := hf7
  have hR := hR.but0 hc8
  have hM := hM.trans (m_K.but0 hc8)
  refine lv_iload_n hx hb d_Mo_sync_24 rfl (lv_at hl 0 rfl) ?_
  exact x_iret hx hb hr hlocks rfl ⟨m_M.th ho hR (hV.kept q6 q4 q5 w4 _) rfl rfl rfl rfl rfl rfl rfl, hM⟩ hL (Nat.le_refl _) (Nat.le_refl _) d_Mo_sync_25
set_option maxHeartbeats 4000000 in
set_option maxRecDepth 100000 in
theorem c_Mo_breakOffT (l : Launch) {D : va_G} {A : Nat → ClassId} {H0 : Heap} {b : Nat} {th : Int32} {S : m_S} (h : m_M D A b th S H0) {n : Int32} (hn : n < 0) : Met l y_Mo_breakOff w_Mo_breakOff { frames := 3, cells := 0, slots := 0, locals := 72 } (x_Pc D A [.ref b, .int n] H0) (x_Q (some (.int 0)) (fun H1 => m_M D A b 1 S H1 ∧ m_K b H0 H1)) 0 0 (m_fq b) := by
  refine Met.ofW (cc := prog_10_method_20_code) (maxL := 4) (ret := (some .int)) (by decide) rfl ?_
  intro p e s m args below meth c s₁ B hml hv
  obtain ⟨rfl, hH, hK, hN⟩ := hv
  obtain ⟨hx, hb, hr, htb, hown, hlocks⟩ := x_start (wd := Cond.code y_Mo_breakOff prog_10_method_20_code 4 (some .int)) B
  have hl := lv_entry ([.ref b, .int n]) (n := 4) (Nat.le_of_ble_eq_true rfl)
  rw [lg_entry_eq]
  generalize (lg_sl ([.ref b, .int n]) ++ List.replicate (4 - (lg_sl ([.ref b, .int n])).length) Slot.unset).toArray = ls at hl ⊢
  have hl : lv_has ls 4 [(0, .ref b), (1, .int n)] := hl
  rw [hH]
  obtain ⟨G, ho, hR, hV⟩ := h
  obtain ⟨w1, w2, ⟨w3, w4⟩, ⟨w5, w6⟩, ⟨w7, w8⟩, w9, w10⟩ := id hV
  have hM : m_K b H0 H0 := m_K.refl
  have hL : ∀ q ∈ ([] : List Loc), m_fq b q.base := fun q hq => by cases hq
  refine lv_aload_n hx hb d_Mo_breakOff_0 rfl (lv_at hl 0 rfl) ?_
  refine lv_iload_n hx hb d_Mo_breakOff_1 rfl (lv_at hl 1 rfl) ?_
  refine lv_if_ge (tgt := 9) hx hb d_Mo_breakOff_2 (by decide) (fun c9 => absurd c9 (Int32.not_le.mpr hn)) (fun _ => ?_)
  refine lv_iconst (v := 1) hx hb d_Mo_breakOff_5 (by decide) ?_
  refine lv_goto (tgt := 10) hx hb d_Mo_breakOff_6 (by decide) ?_
  refine x_put (F := m_fq b) (ci := 8) (v := .int 1) (ty := .int) (T := T_Mo) hx hb htb u_Mo t_Mo t_Mo_ok n_Mo hown hK ho hL ⟨Nat.le_refl _, Nat.le_add_right _ _⟩ rfl 0 (by decide) (htb _ mw_463) (fun _ h9 => h9) rfl (by decide +kernel) rfl rfl (Nat.le_of_ble_eq_true rfl) d_Mo_breakOff_10 (fun Ht locs hf9 hc10 hL => ?_)
  have hf9 : va_at D x_cl (b, .inr (8, [.int 1, .ref (b + 1), .ref (b + 2), .int (nI S.1.length), .int (nI S.2.1.length), .ref (b + 3), .ref (b + 4), .ref (b + 5), .ref (b + 6), .ref (b + 7), .ref (b + 8), .int (nI S.2.2.1.length), .int (nI S.2.2.2.1.length), .int (nI S.2.2.2.2.1.length), .int (nI S.2.2.2.2.2.1), .ref (b + 9), .ref (b + 10), .ref (b + 11), .int (nI S.2.2.2.2.2.2.length), .ref (b + 12), .ref (b + 13), .ref (b + 14), .ref (b + 15)])) Ht := hf9
  have ho : m_O D b 1 (nI S.1.length) (nI S.2.1.length) (nI S.2.2.1.length) (nI S.2.2.2.1.length) (nI S.2.2.2.2.1.length) (nI S.2.2.2.2.2.1) (nI S.2.2.2.2.2.2.length) Ht := hf9
  have hR := hR.but0 hc10
  have hM := hM.trans (m_K.but0 hc10)
  refine lv_aload_n hx hb d_Mo_breakOff_13 rfl (lv_at hl 0 rfl) ?_
  refine x_get (ci := 8) (T := T_Mo) hx hb htb u_Mo hown hK ho rfl 0 (by decide) (htb _ mw_463) (fun _ h9 => h9) (v := .int 1) rfl d_Mo_breakOff_14 ?_
  refine lv_if_le (tgt := 22) hx hb d_Mo_breakOff_17 (by decide) (fun c9 => absurd c9 (by decide)) (fun _ => ?_)
  refine lv_iconst (v := 0) hx hb d_Mo_breakOff_20 (by decide) ?_
  exact x_iret hx hb hr hlocks rfl ⟨m_M.th ho hR hV rfl rfl rfl rfl rfl rfl rfl, hM⟩ hL (Nat.le_refl _) (Nat.le_refl _) d_Mo_breakOff_21
set_option maxHeartbeats 4000000 in
set_option maxRecDepth 100000 in
theorem c_Mo_breakOff (l : Launch) {D : va_G} {A : Nat → ClassId} {H0 : Heap} {b : Nat} {th : Int32} {S : m_S} (h : m_M D A b th S H0) {n : Int32} (hn : ¬ n < 0) (hv : ∀ i o, S.2.2.2.2.1[i]? = some o → m_ok ((S.2.2.2.2.1.take i).foldl m_act S.2.2.2.1) o) : Met l y_Mo_breakOff w_Mo_breakOff { frames := 3, cells := 0, slots := 0, locals := 72 } (x_Pc D A [.ref b, .int n] H0) (x_Q (some (.int (nI (min n.toNatClampNeg S.2.2.2.2.1.length)))) (fun H1 => m_M D A b 0 ((S.1, S.2.1, (S.2.2.2.2.1.take (min n.toNatClampNeg S.2.2.2.2.1.length)).foldl m_act S.2.2.2.1, (S.2.2.2.2.1.take (min n.toNatClampNeg S.2.2.2.2.1.length)).foldl m_act S.2.2.2.1, [], S.2.2.2.2.2.1, S.2.2.2.2.2.2)) H1 ∧ m_K b H0 H1)) 0 0 (m_fq b) := by
  refine Met.ofW (cc := prog_10_method_20_code) (maxL := 4) (ret := (some .int)) (by decide) rfl ?_
  intro p e s m args below meth c s₁ B hml hv
  obtain ⟨rfl, hH, hK, hN⟩ := hv
  obtain ⟨hx, hb, hr, htb, hown, hlocks⟩ := x_start (wd := Cond.code y_Mo_breakOff prog_10_method_20_code 4 (some .int)) B
  have hl := lv_entry ([.ref b, .int n]) (n := 4) (Nat.le_of_ble_eq_true rfl)
  rw [lg_entry_eq]
  generalize (lg_sl ([.ref b, .int n]) ++ List.replicate (4 - (lg_sl ([.ref b, .int n])).length) Slot.unset).toArray = ls at hl ⊢
  have hl : lv_has ls 4 [(0, .ref b), (1, .int n)] := hl
  rw [hH]
  obtain ⟨G, ho, hR, hV⟩ := h
  obtain ⟨w1, w2, ⟨w3, w4⟩, ⟨w5, w6⟩, ⟨w7, w8⟩, w9, w10⟩ := id hV
  have hM : m_K b H0 H0 := m_K.refl
  have hL : ∀ q ∈ ([] : List Loc), m_fq b q.base := fun q hq => by cases hq
  refine lv_aload_n hx hb d_Mo_breakOff_0 rfl (lv_at hl 0 rfl) ?_
  refine lv_iload_n hx hb d_Mo_breakOff_1 rfl (lv_at hl 1 rfl) ?_
  refine lv_if_ge (tgt := 9) hx hb d_Mo_breakOff_2 (by decide) (fun _ => ?_) (fun c9 => absurd (Int32.not_lt.mp hn) c9)
  refine lv_iconst (v := 0) hx hb d_Mo_breakOff_9 (by decide) ?_
  refine x_put (F := m_fq b) (ci := 8) (v := .int 0) (ty := .int) (T := T_Mo) hx hb htb u_Mo t_Mo t_Mo_ok n_Mo hown hK ho hL ⟨Nat.le_refl _, Nat.le_add_right _ _⟩ rfl 0 (by decide) (htb _ mw_463) (fun _ h9 => h9) rfl (by decide +kernel) rfl rfl (Nat.le_of_ble_eq_true rfl) d_Mo_breakOff_10 (fun Ht locs hf11 hc12 hL => ?_)
  have hf11 : va_at D x_cl (b, .inr (8, [.int 0, .ref (b + 1), .ref (b + 2), .int (nI S.1.length), .int (nI S.2.1.length), .ref (b + 3), .ref (b + 4), .ref (b + 5), .ref (b + 6), .ref (b + 7), .ref (b + 8), .int (nI S.2.2.1.length), .int (nI S.2.2.2.1.length), .int (nI S.2.2.2.2.1.length), .int (nI S.2.2.2.2.2.1), .ref (b + 9), .ref (b + 10), .ref (b + 11), .int (nI S.2.2.2.2.2.2.length), .ref (b + 12), .ref (b + 13), .ref (b + 14), .ref (b + 15)])) Ht := hf11
  have ho : m_O D b 0 (nI S.1.length) (nI S.2.1.length) (nI S.2.2.1.length) (nI S.2.2.2.1.length) (nI S.2.2.2.2.1.length) (nI S.2.2.2.2.2.1) (nI S.2.2.2.2.2.2.length) Ht := hf11
  have hR := hR.but0 hc12
  have hM := hM.trans (m_K.but0 hc12)
  refine lv_aload_n hx hb d_Mo_breakOff_13 rfl (lv_at hl 0 rfl) ?_
  refine x_get (ci := 8) (T := T_Mo) hx hb htb u_Mo hown hK ho rfl 0 (by decide) (htb _ mw_463) (fun _ h9 => h9) (v := .int 0) rfl d_Mo_breakOff_14 ?_
  refine lv_if_le (tgt := 22) hx hb d_Mo_breakOff_17 (by decide) (fun _ => ?_) (fun c9 => absurd (by decide) c9)
  have hmn : min n.toNatClampNeg S.2.2.2.2.1.length ≤ S.2.2.2.2.1.length := Nat.min_le_right _ _
  have hmm := m_min hn (d := S.2.2.2.2.1.length) (by omega)
  generalize min n.toNatClampNeg S.2.2.2.2.1.length = st at *
  have rest : ∀ ls, lv_has ls 4 [(2, .int (nI st)), (0, .ref b), (1, .int n)] → W p l e (headSpec w_Mo_breakOff { frames := 3, cells := 0, slots := 0, locals := 72 }).room s m [Value.ref b, Value.int n].toArray below meth c Ht locs 0 0 (MQ below (x_Q (some (.int (nI (st)))) (fun H1 => m_M D A b 0 ((S.1, S.2.1, (S.2.2.2.2.1.take (st)).foldl m_act S.2.2.2.1, (S.2.2.2.2.1.take (st)).foldl m_act S.2.2.2.1, [], S.2.2.2.2.2.1, S.2.2.2.2.2.2)) H1 ∧ m_K b H0 H1)) [Value.ref b, Value.int n].toArray s 0 0 (m_fq b)) (F0 m 39 ls []) := by
    intro ls hl
    refine lv_iconst (v := 0) hx hb d_Mo_breakOff_39 (by decide) ?_
    refine lv_istore_n (lv' := [(3, .int 0), (2, .int (nI st)), (0, .ref b), (1, .int n)]) hx hb d_Mo_breakOff_40 rfl hl (by decide) rfl (fun ls hl => ?_)
    refine x_loop (σ := Nat × m_G × Heap × List Loc × Array Slot) (fun z => F0 m 41 z.2.2.2.2 []) (fun z => z.2.2.1) (fun z => z.2.2.2.1) (fun z => z.1 ≤ S.2.2.2.1.length ∧ m_O D b 0 (nI S.1.length) (nI S.2.1.length) (nI S.2.2.1.length) (nI S.2.2.2.1.length) (nI S.2.2.2.2.1.length) (nI S.2.2.2.2.2.1) (nI S.2.2.2.2.2.2.length) z.2.2.1 ∧ m_R D A b z.2.1 z.2.2.1 ∧ m_K b H0 z.2.2.1 ∧ (∀ q ∈ z.2.2.2.1, m_fq b q.base) ∧ m_f60 G z.2.1 ∧ (∀ i f, i < z.1 → S.2.2.2.1[i]? = some f → m_e z.2.1 i f) ∧ lv_has z.2.2.2.2 4 [(3, .int (nI z.1)), (2, .int (nI st)), (0, .ref b), (1, .int n)]) (fun z => S.2.2.2.1.length - z.1) (s0 := (0, G, Ht, _, ls)) ⟨Nat.zero_le _, ho, hR, hM, hL, m_f60.refl, (fun i f q => absurd q (Nat.not_lt_zero i)), (lv_sub hl [0, 1, 2, 3] rfl)⟩ ?_
    clear hR ho hM hL hl
    rintro ⟨k, G5, H, locs, ls⟩ ⟨hk, ho, hR, hM, hL, hf60, hks, hl⟩ ih
    dsimp only at hk ho hR hM hL hf60 hks hl ih ⊢
    refine lv_iload_n hx hb d_Mo_breakOff_41 rfl (lv_at hl 0 rfl) ?_
    refine lv_aload_n hx hb d_Mo_breakOff_42 rfl (lv_at hl 2 rfl) ?_
    refine x_get (ci := 8) (T := T_Mo) hx hb htb u_Mo hown hK ho rfl 12 (by decide) (htb _ mw_475) (fun _ h9 => h9) (v := .int (nI S.2.2.2.1.length)) rfl d_Mo_breakOff_43 ?_
    refine lv_icmp_ge (tgt := 64) hx hb d_Mo_breakOff_46 (by decide) (fun c1 => ?_) (fun c1 => ?_)
    · have e1 : k = S.2.2.2.1.length := Nat.le_antisymm hk (Nat.le_of_not_lt fun q => absurd c1 (nI_ge q (by omega)))
      subst e1
      clear ih
      refine lv_aload_n hx hb d_Mo_breakOff_64 rfl (lv_at hl 2 rfl) ?_
      refine lv_aload_n hx hb d_Mo_breakOff_65 rfl (lv_at hl 2 rfl) ?_
      refine x_get (ci := 8) (T := T_Mo) hx hb htb u_Mo hown hK ho rfl 12 (by decide) (htb _ mw_475) (fun _ h9 => h9) (v := .int (nI S.2.2.2.1.length)) rfl d_Mo_breakOff_66 ?_
      refine x_put (F := m_fq b) (ci := 8) (v := .int (nI S.2.2.2.1.length)) (ty := .int) (T := T_Mo) hx hb htb u_Mo t_Mo t_Mo_ok n_Mo hown hK ho hL ⟨Nat.le_refl _, Nat.le_add_right _ _⟩ rfl 11 (by decide) (htb _ mw_474) (fun _ h9 => h9) rfl (by decide +kernel) rfl rfl (Nat.le_of_ble_eq_true rfl) d_Mo_breakOff_69 (fun H6 locs hf13 hc14 hL => ?_)
      have hf13 : va_at D x_cl (b, .inr (8, [.int 0, .ref (b + 1), .ref (b + 2), .int (nI S.1.length), .int (nI S.2.1.length), .ref (b + 3), .ref (b + 4), .ref (b + 5), .ref (b + 6), .ref (b + 7), .ref (b + 8), .int (nI S.2.2.2.1.length), .int (nI S.2.2.2.1.length), .int (nI S.2.2.2.2.1.length), .int (nI S.2.2.2.2.2.1), .ref (b + 9), .ref (b + 10), .ref (b + 11), .int (nI S.2.2.2.2.2.2.length), .ref (b + 12), .ref (b + 13), .ref (b + 14), .ref (b + 15)])) H6 := hf13
      have ho : m_O D b 0 (nI S.1.length) (nI S.2.1.length) (nI S.2.2.2.1.length) (nI S.2.2.2.1.length) (nI S.2.2.2.2.1.length) (nI S.2.2.2.2.2.1) (nI S.2.2.2.2.2.2.length) H6 := hf13
      have hR := hR.but0 hc14
      have hM := hM.trans (m_K.but0 hc14)
      refine lv_iconst (v := 0) hx hb d_Mo_breakOff_72 (by decide) ?_
      refine lv_istore_n (lv' := [(3, .int 0), (2, .int (nI st)), (0, .ref b), (1, .int n)]) hx hb d_Mo_breakOff_73 rfl hl (by decide) rfl (fun ls hl => ?_)
      have hks0 : m_L G5 0 S.2.2.2.1 := fun i f h => hks i f (List.getElem?_eq_some_iff.mp h).1 h
      clear hks
      refine x_loop (σ := Nat × m_G × Heap × List Loc × Array Slot) (fun z => F0 m 74 z.2.2.2.2 []) (fun z => z.2.2.1) (fun z => z.2.2.2.1) (fun z => z.1 ≤ st ∧ m_O D b 0 (nI S.1.length) (nI S.2.1.length) (nI ((S.2.2.2.2.1.take (z.1)).foldl m_act S.2.2.2.1).length) (nI S.2.2.2.1.length) (nI S.2.2.2.2.1.length) (nI S.2.2.2.2.2.1) (nI S.2.2.2.2.2.2.length) z.2.2.1 ∧ m_R D A b z.2.1 z.2.2.1 ∧ m_K b H0 z.2.2.1 ∧ (∀ q ∈ z.2.2.2.1, m_fq b q.base) ∧ m_f60 G z.2.1 ∧ m_L z.2.1 0 ((S.2.2.2.2.1.take (z.1)).foldl m_act S.2.2.2.1) ∧ ((S.2.2.2.2.1.take (z.1)).foldl m_act S.2.2.2.1).length ≤ 60 ∧ lv_has z.2.2.2.2 4 [(3, .int (nI z.1)), (2, .int (nI st)), (0, .ref b), (1, .int n)]) (fun z => st - z.1) (s0 := (0, G5, H6, _, ls)) ⟨Nat.zero_le _, ho, hR, hM, hL, hf60, hks0, w6, (lv_sub hl [0, 1, 2, 3] rfl)⟩ ?_
      clear hR ho hM hL hl
      rintro ⟨k, G6, H, locs, ls⟩ ⟨hk, ho, hR, hM, hL, hf60, hfo, hfol, hl⟩ ih
      dsimp only at hk ho hR hM hL hf60 hfo hfol hl ih ⊢
      refine lv_iload_n hx hb d_Mo_breakOff_74 rfl (lv_at hl 0 rfl) ?_
      refine lv_iload_n hx hb d_Mo_breakOff_75 rfl (lv_at hl 1 rfl) ?_
      refine lv_icmp_ge (tgt := 90) hx hb d_Mo_breakOff_76 (by decide) (fun c2 => ?_) (fun c2 => ?_)
      · have e1 : k = st := Nat.le_antisymm hk (Nat.le_of_not_lt fun q => absurd c2 (nI_ge q (by omega)))
        subst e1
        refine lv_aload_n hx hb d_Mo_breakOff_90 rfl (lv_at hl 2 rfl) ?_
        refine x_call (F := m_fq b) (va_runV (As := []) (rest := []) ⟨hx, hb, hml, hown, htb⟩ (c_Mo_keep l ho hR hfol hfo) (x_cV 0 htb mw_601 mw_6 mw_604 mw_603 ms_17 rfl rfl (by decide +kernel) ⟨Nat.le_of_ble_eq_true rfl, Nat.le_of_ble_eq_true rfl⟩) (x_preV hK hN ho rfl) rfl rfl hl.1 rfl (lv_room (Nat.le_of_ble_eq_true rfl)) d_Mo_breakOff_91 ⟨Nat.le_of_ble_eq_true rfl, Nat.le_of_ble_eq_true rfl⟩) hL (fun q hq => hq) (fun H8 locs hP hL => ?_)
        refine W.eq (g2 := F0 m 94 ls []) rfl ?_
        obtain ⟨G1, ho, hR, q3, q4, q5, q6⟩ := hP
        refine lv_iload_n hx hb d_Mo_breakOff_94 rfl (lv_at hl 1 rfl) ?_
        exact x_iret hx hb hr hlocks rfl ⟨m_M.th ho hR (hV.kept (fun j hj => (q6 j hj).trans (hf60.2 j hj)) q4 q5 hfol _) rfl rfl rfl rfl rfl rfl rfl, hM.trans q3⟩ hL (Nat.le_refl _) (Nat.le_refl _) d_Mo_breakOff_95
      · have hlt : k < st := Nat.lt_of_not_le fun q => absurd (nI_le q (by omega)) c2
        obtain ⟨o, hoo⟩ := g_ex (as := S.2.2.2.2.1) (j := k) (by omega)
        have ho9 := w7 k o hoo
        have hmo := hv k o hoo
        have hfd := m_fold (ks := S.2.2.2.1) hoo
        refine lv_aload_n hx hb d_Mo_breakOff_79 rfl (lv_at hl 2 rfl) ?_
        refine lv_iload_n hx hb d_Mo_breakOff_80 rfl (lv_at hl 0 rfl) ?_
        refine x_call (F := m_fq b) (va_runV (As := [.int (nI k)]) (rest := []) ⟨hx, hb, hml, hown, htb⟩ (c_Mo_act l ho hR (o := o) hfol hfo (by omega) ((congrFun (hf60.2 9 (by decide)) k).trans ho9.1) ((congrFun (hf60.2 10 (by decide)) k).trans ho9.2.1) ((congrFun (hf60.2 11 (by decide)) k).trans ho9.2.2.1) (hf60.e (by omega) ho9.2.2.2) hmo) (x_cV 1 htb mw_569 mw_6 mw_572 mw_571 ms_12 rfl rfl (by decide +kernel) ⟨Nat.le_of_ble_eq_true rfl, Nat.le_of_ble_eq_true rfl⟩) (x_preV hK hN ho rfl) rfl rfl hl.1 rfl (lv_room (Nat.le_of_ble_eq_true rfl)) d_Mo_breakOff_81 ⟨Nat.le_of_ble_eq_true rfl, Nat.le_of_ble_eq_true rfl⟩) hL (fun q hq => hq) (fun H7 locs hP hL => ?_)
        refine W.eq (g2 := F0 m 84 ls []) rfl ?_
        obtain ⟨G7, ho, hR, q3, q4, q5⟩ := hP
        have hM := hM.trans q3
        rw [← hfd] at ho q4
        refine lv_iinc (v := nI (k + 1)) (lv' := [(3, .int (nI (k + 1))), (2, .int (nI st)), (0, .ref b), (1, .int n)]) hx hb d_Mo_breakOff_84 hl (k := 0) rfl (nI_1 k) (by decide) rfl (fun ls hl => ?_)
        refine lv_goto (tgt := 74) hx hb d_Mo_breakOff_87 (by decide) ?_
        refine ih (k + 1, G7, H7, locs, ls) ⟨hlt, ho, hR, hM, hL, hf60.trans q5, q4, by show ((S.2.2.2.2.1.take (k + 1)).foldl m_act S.2.2.2.1).length ≤ 60; rw [hfd]; exact m_act_len hmo hfol, (lv_sub hl [0, 1, 2, 3] rfl)⟩ (by show st - (k + 1) < st - k; omega)
    · have hlt : k < S.2.2.2.1.length := Nat.lt_of_not_le fun q => absurd (nI_le q (by omega)) c1
      obtain ⟨f, hff⟩ := g_ex hlt
      refine lv_aload_n hx hb d_Mo_breakOff_49 rfl (lv_at hl 2 rfl) ?_
      refine lv_bipush (v := 60) hx hb d_Mo_breakOff_50 (by decide) ?_
      refine lv_iload_n hx hb d_Mo_breakOff_52 rfl (lv_at hl 0 rfl) ?_
      refine lv_iadd hx hb d_Mo_breakOff_53 ?_
      refine x_top (y := nI (60 + k)) (nI_add 60 k) ?_
      refine lv_iload_n hx hb d_Mo_breakOff_54 rfl (lv_at hl 0 rfl) ?_
      refine x_call (F := m_fq b) (va_runV (As := [.int (nI (60 + k)), .int (nI k)]) (rest := []) ⟨hx, hb, hml, hown, htb⟩ (c_Mo_copy l ho hR (i := 60 + k) (j := k) (by omega) (by omega) (by omega) (hf60.e (by omega) (Nat.add_comm k 60 ▸ w5 k f hff))) (x_cV 2 htb mw_581 mw_6 mw_584 mw_583 ms_15 rfl rfl (by decide +kernel) ⟨Nat.le_of_ble_eq_true rfl, Nat.le_of_ble_eq_true rfl⟩) (x_preV hK hN ho rfl) rfl rfl hl.1 rfl (lv_room (Nat.le_of_ble_eq_true rfl)) d_Mo_breakOff_55 ⟨Nat.le_of_ble_eq_true rfl, Nat.le_of_ble_eq_true rfl⟩) hL (fun q hq => hq) (fun H7 locs hP hL => ?_)
      refine W.eq (g2 := F0 m 58 ls []) rfl ?_
      obtain ⟨G7, ho, hR, q3, q4, q5⟩ := hP
      have hM := hM.trans q3
      refine lv_iinc (v := nI (k + 1)) (lv' := [(3, .int (nI (k + 1))), (2, .int (nI st)), (0, .ref b), (1, .int n)]) hx hb d_Mo_breakOff_58 hl (k := 0) rfl (nI_1 k) (by decide) rfl (fun ls hl => ?_)
      refine lv_goto (tgt := 41) hx hb d_Mo_breakOff_61 (by decide) ?_
      refine ih (k + 1, G7, H7, locs, ls) ⟨hlt, ho, hR, hM, hL, hf60.trans (q5.f60 (by omega)), fun i g q q2 => ?_, (lv_sub hl [0, 1, 2, 3] rfl)⟩ (by show S.2.2.2.1.length - (k + 1) < S.2.2.2.1.length - k; omega)
      have q : i < k + 1 := q
      rcases Nat.eq_or_lt_of_le (Nat.le_of_lt_succ q) with e | e
      · subst e; rw [hff] at q2; cases q2; exact q4
      · exact q5.e (by omega) (hks i g e q2)
  refine lv_iload_n hx hb d_Mo_breakOff_22 rfl (lv_at hl 1 rfl) ?_
  refine lv_aload_n hx hb d_Mo_breakOff_23 rfl (lv_at hl 0 rfl) ?_
  refine x_get (ci := 8) (T := T_Mo) hx hb htb u_Mo hown hK ho rfl 13 (by decide) (htb _ mw_476) (fun _ h9 => h9) (v := .int (nI S.2.2.2.2.1.length)) rfl d_Mo_breakOff_24 ?_
  refine lv_icmp_ge (tgt := 34) hx hb d_Mo_breakOff_27 (by decide) (fun c0 => ?_) (fun c0 => ?_)
  · refine lv_aload_n hx hb d_Mo_breakOff_34 rfl (lv_at hl 0 rfl) ?_
    refine x_get (ci := 8) (T := T_Mo) hx hb htb u_Mo hown hK ho rfl 13 (by decide) (htb _ mw_476) (fun _ h9 => h9) (v := .int (nI S.2.2.2.2.1.length)) rfl d_Mo_breakOff_35 ?_
    refine x_top (y := nI st) (hmm.2 (Int32.not_lt.mpr c0)) ?_
    refine lv_istore_n (lv' := [(2, .int (nI st)), (0, .ref b), (1, .int n)]) hx hb d_Mo_breakOff_38 rfl hl (by decide) rfl (fun ls hl => ?_)
    exact rest ls (lv_sub hl [0, 1, 2] rfl)
  · refine lv_iload_n hx hb d_Mo_breakOff_30 rfl (lv_at hl 1 rfl) ?_
    refine lv_goto (tgt := 38) hx hb d_Mo_breakOff_31 (by decide) ?_
    refine x_top (y := nI st) (hmm.1 (Int32.not_le.mp c0)) ?_
    refine lv_istore_n (lv' := [(2, .int (nI st)), (0, .ref b), (1, .int n)]) hx hb d_Mo_breakOff_38 rfl hl (by decide) rfl (fun ls hl => ?_)
    exact rest ls (lv_sub hl [0, 1, 2] rfl)
