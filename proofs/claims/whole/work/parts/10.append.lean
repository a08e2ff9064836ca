/-- byte k of a long -/
def g_by (v : Int64) (k : Nat) : Nat := v.toBitVec.toNat / 2 ^ (8 * k) % 256
def g_puts (v : Int64) (n i : Nat) : List Nat := (List.range (n - i)).map (fun d => g_by v (n - 1 - d))
theorem g_by_lt (v : Int64) (k : Nat) : g_by v k < 256 := Nat.mod_lt _ (by decide)
theorem g_puts_0 (v : Int64) (n : Nat) : g_puts v n n = [] := by unfold g_puts; rw [Nat.sub_self]; rfl
theorem g_puts_step {v : Int64} {n j : Nat} (h : j < n) : g_puts v n j = g_puts v n (j + 1) ++ [g_by v j] := by
  unfold g_puts
  have e : n - j = (n - (j + 1)) + 1 := by omega
  rw [e, List.range_succ, List.map_append]
  congr 1
  show [g_by v (n - 1 - (n - (j + 1)))] = [g_by v j]
  congr 2
  omega
theorem g_puts_len {v : Int64} {n j : Nat} : (g_puts v n j).length = n - j := by unfold g_puts; rw [List.length_map, List.length_range]
theorem g_puts_lt {v : Int64} {n j : Nat} : ∀ u ∈ g_puts v n j, u < 256 := fun u hu => by
  obtain ⟨d, -, rfl⟩ := List.mem_map.mp hu
  exact g_by_lt _ _
theorem g_b8 (y : Int64) : y.toInt32.toInt8.toInt32 = sb_b (y.toBitVec.toNat % 256) := by
  unfold sb_b
  have h : y.toInt32.toInt8 = (nI (y.toBitVec.toNat % 256)).toInt8 := by
    apply Int8.toBitVec_inj.mp
    rw [Int32.toBitVec_toInt8, Int32.toBitVec_toInt8, Int64.toBitVec_toInt32]
    apply BitVec.eq_of_toNat_eq
    have e1 : (nI (y.toBitVec.toNat % 256)).toBitVec = BitVec.ofNat 32 (y.toBitVec.toNat % 256) := rfl
    rw [e1]
    rw [BitVec.signExtend_eq_setWidth_of_le _ (by decide), BitVec.signExtend_eq_setWidth_of_le _ (by decide), BitVec.signExtend_eq_setWidth_of_le _ (by decide)]
    simp only [BitVec.toNat_setWidth, BitVec.toNat_ofNat]
    omega
  rw [h]
theorem g_s8 : ∀ k, k < 8 → ((nI (8 * k)).toInt64.toUInt64 &&& Int64.toUInt64 63) = UInt64.ofNat (8 * k) := by decide +kernel
theorem g_s8i : ∀ k, k < 8 → ((nI (8 * k)).toInt64 &&& 63) = Int64.ofNat (8 * k) := by decide +kernel
theorem g_ushr (v : Int64) {k : Nat} (hk : k < 8) : (v.toUInt64 >>> ((nI (8 * k)).toInt64.toUInt64 &&& Int64.toUInt64 63)).toInt64.toInt32.toInt8.toInt32 = sb_b (g_by v k) := by
  rw [g_b8, g_s8 k hk]
  congr 1
  unfold g_by
  have e : (v.toUInt64 >>> UInt64.ofNat (8 * k)).toInt64.toBitVec.toNat = v.toBitVec.toNat / 2 ^ (8 * k) := by
    show (v.toUInt64 >>> UInt64.ofNat (8 * k)).toNat = _
    rw [UInt64.toNat_shiftRight, UInt64.toNat_ofNat', Nat.shiftRight_eq_div_pow]
    have h1 : 8 * k % 2 ^ 64 % 64 = 8 * k := by omega
    rw [h1]
    rfl
  rw [e]
theorem x_dec (x : Int32) : x + Int32.ofInt (-1) = x - 1 := by
  have h : Int32.ofInt (-1) = -1 := by decide
  rw [h, Int32.sub_eq_add_neg]
theorem g_app {us vs : List Nat} {j : Nat} : (us ++ vs).getD j 0 = if j < us.length then us.getD j 0 else vs.getD (j - us.length) 0 := by
  rw [List.getD_eq_getElem?_getD]
  split
  · rename_i h
    rw [List.getElem?_append_left h, List.getD_eq_getElem?_getD]
  · rename_i h
    rw [List.getElem?_append_right (by omega), List.getD_eq_getElem?_getD]
set_option maxHeartbeats 4000000 in
set_option maxRecDepth 100000 in
theorem c_Tp_appendN (l : Launch) {D : va_G} {A : Nat → ClassId} {H0 : Heap} {t r : Nat} {us : List Nat} (h : g_tp D A t r us H0) (v : Int64) {x : Int32} (hbad : x < 0 ∨ 8 < x ∨ nI (400 - us.length) < x) : Met l y_Tp_append w_Tp_append { frames := 0, cells := 0, slots := 0, locals := 0 } (x_Pc D A [.ref t, .long v, .int x] H0) (x_Q (some (.int 0)) (fun H1 => H1 = H0)) 0 0 (fun _ => False) := by
  refine Met.ofW (cc := prog_8_method_2_code) (maxL := 5) (ret := (some .boolean)) (by decide) rfl ?_
  intro p e s m args below meth c s₁ B hml hv
  obtain ⟨rfl, hH, hK, hN⟩ := hv
  obtain ⟨hx, hb, hr, htb, hown, hlocks⟩ := x_start (wd := Cond.code y_Tp_append prog_8_method_2_code 5 (some .boolean)) B
  have hl := lv_entry ([.ref t, .long v, .int x]) (n := 5) (Nat.le_of_ble_eq_true rfl)
  rw [lg_entry_eq]
  generalize (lg_sl ([.ref t, .long v, .int x]) ++ List.replicate (5 - (lg_sl ([.ref t, .long v, .int x])).length) Slot.unset).toArray = ls at hl ⊢
  have hl : lv_has ls 5 [(0, .ref t), (1, .long v), (3, .int x)] := hl
  rw [hH]
  obtain ⟨f, h1, h2, h3, h4, h5, h6⟩ := h
  refine lv_iload_n hx hb d_Tp_append_0 rfl (lv_at hl 2 rfl) ?_
  refine lv_if_lt (tgt := 24) hx hb d_Tp_append_1 (by decide) (fun c1 => ?_) (fun c1 => ?_)
  · refine lv_iconst (v := 0) hx hb d_Tp_append_24 (by decide) ?_
    exact x_zret hx hb hr hlocks rfl (by decide) rfl (fun q hq => by cases hq) (Nat.le_refl _) (Nat.le_refl _) d_Tp_append_25
  · refine lv_iload_n hx hb d_Tp_append_4 rfl (lv_at hl 2 rfl) ?_
    refine lv_bipush (v := 8) hx hb d_Tp_append_5 (by decide) ?_
    refine lv_icmp_gt (tgt := 24) hx hb d_Tp_append_7 (by decide) (fun c2 => ?_) (fun c2 => ?_)
    · refine lv_iconst (v := 0) hx hb d_Tp_append_24 (by decide) ?_
      exact x_zret hx hb hr hlocks rfl (by decide) rfl (fun q hq => by cases hq) (Nat.le_refl _) (Nat.le_refl _) d_Tp_append_25
    · refine lv_iload_n hx hb d_Tp_append_10 rfl (lv_at hl 2 rfl) ?_
      refine lv_aload_n hx hb d_Tp_append_11 rfl (lv_at hl 0 rfl) ?_
      refine x_get (ci := 4) (T := T_Tp) hx hb htb u_Tp hown hK h1 rfl 0 (by decide) (htb _ mw_34) (fun _ h9 => h9) (v := .ref r) rfl d_Tp_append_12 ?_
      refine x_alen hx hb hK 0 h2 rfl (v := nI 400) rfl d_Tp_append_15 ?_
      refine lv_aload_n hx hb d_Tp_append_16 rfl (lv_at hl 0 rfl) ?_
      refine x_get (ci := 4) (T := T_Tp) hx hb htb u_Tp hown hK h1 rfl 1 (by decide) (htb _ mw_35) (fun _ h9 => h9) (v := .int (nI us.length)) rfl d_Tp_append_17 ?_
      refine lv_isub hx hb d_Tp_append_20 ?_
      refine x_top (y := nI (400 - us.length)) (pk_sub h5) ?_
      refine lv_icmp_le (tgt := 26) hx hb d_Tp_append_21 (by decide) (fun c9 => absurd c9 (Int32.not_le.mpr ((hbad.resolve_left c1).resolve_left c2))) (fun _ => ?_)
      refine lv_iconst (v := 0) hx hb d_Tp_append_24 (by decide) ?_
      exact x_zret hx hb hr hlocks rfl (by decide) rfl (fun q hq => by cases hq) (Nat.le_refl _) (Nat.le_refl _) d_Tp_append_25
set_option maxHeartbeats 4000000 in
set_option maxRecDepth 100000 in
theorem c_Tp_append (l : Launch) {D : va_G} {A : Nat → ClassId} {H0 : Heap} {t r n : Nat} {us : List Nat} (h : g_tp D A t r us H0) (v : Int64) (hn : n ≤ 8) (hr2 : us.length + n ≤ 400) (n1 : t ≠ r) : Met l y_Tp_append w_Tp_append { frames := 0, cells := 0, slots := 0, locals := 0 } (x_Pc D A [.ref t, .long v, .int (nI n)] H0) (x_Q (some (.int 1)) (fun H1 => g_tp D A t r (us ++ g_puts v n 0) H1 ∧ x_but2 t r H0 H1)) 0 0 (fun q : Nat => q = t ∨ q = r) := by
  refine Met.ofW (cc := prog_8_method_2_code) (maxL := 5) (ret := (some .boolean)) (by decide) rfl ?_
  intro p e s m args below meth c s₁ B hml hv
  obtain ⟨rfl, hH, hK, hN⟩ := hv
  obtain ⟨hx, hb, hr, htb, hown, hlocks⟩ := x_start (wd := Cond.code y_Tp_append prog_8_method_2_code 5 (some .boolean)) B
  have hl := lv_entry ([.ref t, .long v, .int (nI n)]) (n := 5) (Nat.le_of_ble_eq_true rfl)
  rw [lg_entry_eq]
  generalize (lg_sl ([.ref t, .long v, .int (nI n)]) ++ List.replicate (5 - (lg_sl ([.ref t, .long v, .int (nI n)])).length) Slot.unset).toArray = ls at hl ⊢
  have hl : lv_has ls 5 [(0, .ref t), (1, .long v), (3, .int (nI n))] := hl
  rw [hH]
  obtain ⟨f, h1, h2, h3, h4, h5, h6⟩ := h
  have hL : ∀ q ∈ ([] : List Loc), (fun q : Nat => q = t ∨ q = r) q.base := fun q hq => by cases hq
  refine lv_iload_n hx hb d_Tp_append_0 rfl (lv_at hl 2 rfl) ?_
  refine lv_if_lt (tgt := 24) hx hb d_Tp_append_1 (by decide) (fun c9 => absurd c9 (nI_pos (by omega))) (fun _ => ?_)
  refine lv_iload_n hx hb d_Tp_append_4 rfl (lv_at hl 2 rfl) ?_
  refine lv_bipush (v := 8) hx hb d_Tp_append_5 (by decide) ?_
  refine lv_icmp_gt (tgt := 24) hx hb d_Tp_append_7 (by decide) (fun c9 => absurd c9 (nI_nlt (a := 8) (b := n) hn (by omega))) (fun _ => ?_)
  refine lv_iload_n hx hb d_Tp_append_10 rfl (lv_at hl 2 rfl) ?_
  refine lv_aload_n hx hb d_Tp_append_11 rfl (lv_at hl 0 rfl) ?_
  refine x_get (ci := 4) (T := T_Tp) hx hb htb u_Tp hown hK h1 rfl 0 (by decide) (htb _ mw_34) (fun _ h9 => h9) (v := .ref r) rfl d_Tp_append_12 ?_
  refine x_alen hx hb hK 0 h2 rfl (v := nI 400) rfl d_Tp_append_15 ?_
  refine lv_aload_n hx hb d_Tp_append_16 rfl (lv_at hl 0 rfl) ?_
  refine x_get (ci := 4) (T := T_Tp) hx hb htb u_Tp hown hK h1 rfl 1 (by decide) (htb _ mw_35) (fun _ h9 => h9) (v := .int (nI us.length)) rfl d_Tp_append_17 ?_
  refine lv_isub hx hb d_Tp_append_20 ?_
  refine x_top (y := nI (400 - us.length)) (pk_sub h5) ?_
  refine lv_icmp_le (tgt := 26) hx hb d_Tp_append_21 (by decide) (fun _ => ?_) (fun c9 => absurd (nI_le (by omega) (by omega)) c9)
  refine lv_iload_n hx hb d_Tp_append_26 rfl (lv_at hl 2 rfl) ?_
  refine lv_iconst (v := 1) hx hb d_Tp_append_27 (by decide) ?_
  refine lv_isub hx hb d_Tp_append_28 ?_
  refine lv_istore (lv' := [(4, .int ((nI n) - 1)), (0, .ref t), (1, .long v), (3, .int (nI n))]) hx hb d_Tp_append_29 hl (by decide) rfl (fun ls hl => ?_)
  refine x_loop (σ := Nat × (Nat → Int32) × Heap × List Loc × Array Slot) (fun z => F0 m 31 z.2.2.2.2 []) (fun z => z.2.2.1) (fun z => z.2.2.2.1) (fun z => z.1 ≤ n ∧ va_at D x_cl (t, .inr (4, [.ref r, .int (nI (us ++ g_puts v n z.1).length)])) z.2.2.1 ∧ va_at D x_cl (r, .inl (A 0, 400, .inl z.2.1)) z.2.2.1 ∧ (∀ j, j < (us ++ g_puts v n z.1).length → z.2.1 j = sb_b ((us ++ g_puts v n z.1).getD j 0)) ∧ sb_Fit z.2.1 ∧ x_but2 t r H0 z.2.2.1 ∧ (∀ q ∈ z.2.2.2.1, (fun q : Nat => q = t ∨ q = r) q.base) ∧ lv_has z.2.2.2.2 5 [(4, .int (nI z.1 - 1)), (0, .ref t), (1, .long v)]) (fun z => z.1) (s0 := (n, f, H0, [], ls)) ⟨Nat.le_refl _, by rw [g_puts_0, List.append_nil]; exact h1, h2, by rw [g_puts_0, List.append_nil]; exact h3, h4, x_but2.refl, hL, (lv_sub hl [0, 1, 2] rfl)⟩ ?_
  rintro ⟨i, f, H, locs, ls⟩ ⟨hi, p1, p2, p3, p4, hb2, hL, hl⟩ ih
  dsimp only at hi p1 p2 p3 p4 hb2 hL hl ih ⊢
  have hlen : (us ++ g_puts v n i).length = us.length + (n - i) := by rw [List.length_append, g_puts_len]
  refine lv_iload hx hb d_Tp_append_31 (lv_at hl 0 rfl) ?_
  refine lv_if_lt (tgt := 70) hx hb d_Tp_append_33 (by decide) (fun c1 => ?_) (fun c1 => ?_)
  · have e : i = 0 := by
      cases i with
      | zero => rfl
      | succ j => rw [nI_pred] at c1; exact absurd c1 (nI_pos (by omega))
    subst e
    refine lv_iconst (v := 1) hx hb d_Tp_append_70 (by decide) ?_
    exact x_zret hx hb hr hlocks rfl (by decide) ⟨⟨f, p1, p2, p3, p4, by rw [hlen]; omega, fun u hu => (List.mem_append.mp hu).elim (h6 u) (g_puts_lt u)⟩, hb2⟩ hL (Nat.le_refl _) (Nat.le_refl _) d_Tp_append_71
  · obtain ⟨j, rfl⟩ : ∃ j, i = j + 1 := by
      cases i with
      | zero => exact absurd (by rw [nI_0]; decide) c1
      | succ j => exact ⟨j, rfl⟩
    rw [nI_pred] at hl
    have hst := g_puts_step (v := v) (n := n) (j := j) (by omega)
    refine lv_aload_n hx hb d_Tp_append_36 rfl (lv_at hl 1 rfl) ?_
    refine x_get (ci := 4) (T := T_Tp) hx hb htb u_Tp hown hK p1 rfl 0 (by decide) (htb _ mw_34) (fun _ h9 => h9) (v := .ref r) rfl d_Tp_append_37 ?_
    refine lv_aload_n hx hb d_Tp_append_40 rfl (lv_at hl 1 rfl) ?_
    refine x_get (ci := 4) (T := T_Tp) hx hb htb u_Tp hown hK p1 rfl 1 (by decide) (htb _ mw_35) (fun _ h9 => h9) (v := .int (nI (us ++ g_puts v n (j + 1)).length)) rfl d_Tp_append_41 ?_
    refine lv_lload_n hx hb d_Tp_append_44 rfl (lv_at hl 2 rfl) ?_
    refine lv_bipush (v := 8) hx hb d_Tp_append_45 (by decide) ?_
    refine lv_iload hx hb d_Tp_append_47 (lv_at hl 0 rfl) ?_
    refine lv_imul hx hb d_Tp_append_49 ?_
    refine x_top (y := nI (8 * j)) (pk_mul 8 j) ?_
    refine lv_lushr (v := (v.toUInt64 >>> ((nI (8 * j)).toInt64.toUInt64 &&& Int64.toUInt64 63)).toInt64) hx hb d_Tp_append_50 rfl ?_
    refine lv_l2i (v := ((v.toUInt64 >>> ((nI (8 * j)).toInt64.toUInt64 &&& Int64.toUInt64 63)).toInt64).toInt32) hx hb d_Tp_append_51 rfl ?_
    refine lv_i2b (v := sb_b (g_by v j)) hx hb d_Tp_append_52 (g_ushr v (by omega)) ?_
    refine x_bast (F := fun q : Nat => q = t ∨ q = r) hx hb hK 0 p2 hL (Or.inr rfl) rfl (vp_in_nI (by omega) (by omega)) d_Tp_append_53 (fun H3 locs p2 hm3 hL => ?_)
    have p1 := hm3.at p1 n1
    refine lv_aload_n hx hb d_Tp_append_54 rfl (lv_at hl 1 rfl) ?_
    refine lv_dup hx hb d_Tp_append_55 rfl ?_
    refine x_get (ci := 4) (T := T_Tp) hx hb htb u_Tp hown hK p1 rfl 1 (by decide) (htb _ mw_35) (fun _ h9 => h9) (v := .int (nI (us ++ g_puts v n (j + 1)).length)) rfl d_Tp_append_56 ?_
    refine lv_iconst (v := 1) hx hb d_Tp_append_59 (by decide) ?_
    refine lv_iadd hx hb d_Tp_append_60 ?_
    refine x_top (y := nI ((us ++ g_puts v n (j + 1)).length + 1)) (nI_1 _) ?_
    refine x_put (F := fun q : Nat => q = t ∨ q = r) (ci := 4) (v := .int (nI ((us ++ g_puts v n (j + 1)).length + 1))) (ty := .int) (T := T_Tp) hx hb htb u_Tp t_Tp t_Tp_ok n_Tp hown hK p1 hL (Or.inl rfl) rfl 1 (by decide) (htb _ mw_35) (fun _ h9 => h9) rfl (by decide +kernel) rfl rfl (Nat.le_of_ble_eq_true rfl) d_Tp_append_61 (fun H4 locs p5 hc1 hL => ?_)
    have p5 : va_at D x_cl (t, .inr (4, [.ref r, .int (nI ((us ++ g_puts v n (j + 1)).length + 1))])) H4 := p5
    refine lv_iinc (v := nI j - 1) (lv' := [(4, .int (nI j - 1)), (0, .ref t), (1, .long v)]) hx hb d_Tp_append_64 hl (k := 0) rfl (x_dec _) (by decide) rfl (fun ls hl => ?_)
    refine lv_goto (tgt := 31) hx hb d_Tp_append_67 (by decide) ?_
    have e3 : (us ++ g_puts v n j).length = (us ++ g_puts v n (j + 1)).length + 1 := by rw [hst, ← List.append_assoc, List.length_append]; rfl
    refine ih (j, _, H4, locs, ls) ⟨by show j ≤ n; omega, by show va_at D x_cl (t, .inr (4, [.ref r, .int (nI (us ++ g_puts v n j).length)])) H4; rw [e3]; exact p5, hc1.at p2 n1.symm, fun q hq => ?_, sb_fitU p4 (by rw [vp_nar_byte]; exact pk_fb _), (hb2.trans (x_but2.r hm3)).trans (x_but2.l hc1), hL, (lv_sub hl [0, 1, 2] rfl)⟩ (Nat.lt_succ_self j)
    have hq : q < (us ++ g_puts v n j).length := hq
    rw [e3] at hq
    show upd f (nI (us ++ g_puts v n (j + 1)).length).toNatClampNeg (vp_nar .byte (sb_b (g_by v j))) q = sb_b ((us ++ g_puts v n j).getD q 0)
    rw [nI_clamp (by omega), hst, ← List.append_assoc, g_app]
    by_cases w : q < (us ++ g_puts v n (j + 1)).length
    · rw [if_pos w, pk_un (by omega)]; exact p3 q w
    · have e4 : q = (us ++ g_puts v n (j + 1)).length := by omega
      rw [if_neg w, e4, pk_us, Nat.sub_self]
      show vp_nar .byte (sb_b (g_by v j)) = sb_b (g_by v j)
      unfold sb_b
      exact pk_vb _
