theorem x_subneg {a b : Nat} (ha : a < 2 ^ 30) (hb : b < 2 ^ 30) : nI a - nI b < 0 ↔ a < b := by
  rw [Int32.lt_iff_toInt_lt, Int32.toInt_sub, nI_toInt (by omega), nI_toInt (by omega)]
  have h : ((a : Int) - (b : Int)).bmod (2 ^ 32) = (a : Int) - (b : Int) := by
    rw [Int.bmod_def]
    omega
  rw [h]
  show _ < (0 : Int) ↔ _
  omega
def m_rk (us : List Nat) (k : Nat) : Nat := if us.length ≤ k then 0 else if us.getD k 0 = 47 then 1 else 2 + us.getD k 0
theorem m_rk_lt {us : List Nat} (h : g_okp us) (k : Nat) : m_rk us k < 2 ^ 30 := by
  have := g_u h.2 k
  unfold m_rk
  split
  · decide
  · split
    · decide
    · omega
theorem m_rk_eq {us vs : List Nat} {k : Nat} (h : m_rk us k = m_rk vs k) : g_po (us.drop k) (vs.drop k) = g_po (us.drop (k + 1)) (vs.drop (k + 1)) := by
  unfold m_rk at h
  by_cases h1 : us.length ≤ k
  · rw [if_pos h1] at h
    by_cases h2 : vs.length ≤ k
    · rw [List.drop_eq_nil_of_le h1, List.drop_eq_nil_of_le h2, List.drop_eq_nil_of_le (by omega), List.drop_eq_nil_of_le (by omega)]
    · rw [if_neg h2] at h
      split at h <;> omega
  · rw [if_neg h1] at h
    by_cases h2 : vs.length ≤ k
    · rw [if_pos h2] at h
      split at h <;> omega
    · rw [if_neg h2] at h
      rw [g_po_step (by omega) (by omega), if_pos (by split at h <;> split at h <;> omega)]
theorem m_rk_ne {us vs : List Nat} {k : Nat} (hu : g_okp us) (hv : g_okp vs) (h : ¬ m_rk us k = m_rk vs k) : g_po (us.drop k) (vs.drop k) < 0 ↔ m_rk us k < m_rk vs k := by
  have bu := g_u hu.2 k
  have bv := g_u hv.2 k
  have lu := hu.1
  have lv := hv.1
  unfold m_rk at *
  by_cases h1 : us.length ≤ k
  · rw [if_pos h1] at *
    by_cases h2 : vs.length ≤ k
    · rw [if_pos h2] at h
      exact absurd rfl h
    · rw [if_neg h2] at *
      rw [List.drop_eq_nil_of_le h1]
      have e : g_po [] (vs.drop k) = nI 0 - nI (vs.drop k).length := rfl
      rw [e, x_subneg (by decide) (by rw [List.length_drop]; omega), List.length_drop]
      constructor
      · intro _; split <;> omega
      · intro _; omega
  · rw [if_neg h1] at *
    by_cases h2 : vs.length ≤ k
    · rw [if_pos h2] at *
      rw [List.drop_eq_nil_of_le h2, g_po_any, x_subneg (by rw [List.length_drop]; omega) (by decide)]
      constructor
      · intro q; omega
      · intro q; omega
    · rw [if_neg h2] at *
      rw [g_po_step (by omega) (by omega)]
      by_cases e : us.getD k 0 = vs.getD k 0
      · exact absurd (by rw [e]) h
      · rw [if_neg e]
        by_cases e1 : us.getD k 0 = 47
        · rw [if_pos e1, if_pos e1]
          constructor
          · intro _; rw [if_neg (by omega)]; omega
          · intro _; decide
        · rw [if_neg e1, if_neg e1]
          by_cases e2 : vs.getD k 0 = 47
          · rw [if_pos e2, if_pos e2]
            constructor
            · intro q; exact absurd q (by decide)
            · intro q; omega
          · rw [if_neg e2, if_neg e2, x_subneg (by omega) (by omega)]
            omega
theorem g_cmp_neg {x y : Int32} : g_cmp x y < 0 ↔ x < y := by
  unfold g_cmp
  by_cases h : x < y
  · rw [if_pos h]
    exact ⟨fun _ => h, fun _ => by decide⟩
  · rw [if_neg h]
    refine ⟨fun q => ?_, fun q => absurd q h⟩
    split at q
    · exact absurd q (by decide)
    · exact absurd q (by decide)

set_option maxHeartbeats 4000000 in
set_option maxRecDepth 100000 in
theorem c_Mo_rank (l : Launch) {D : va_G} {A : Nat → ClassId} {H0 : Heap} {b : Nat} {v0 v1 v2 v3 v4 v5 v6 v7 : Int32} {G : m_G} (ho : m_O D b v0 v1 v2 v3 v4 v5 v6 v7 H0) (hR : m_R D A b G H0) {i k : Nat} {f : g_F} (hi : i < 320) (hk : k < 100) (hf : m_e G i f) : Met l y_Mo_rank w_Mo_rank { frames := 0, cells := 0, slots := 0, locals := 0 } (x_Pc D A [.ref b, .int (nI i), .int (nI k)] H0) (x_Q (some (.int (nI (m_rk f.1.2.2 k)))) (fun H1 => H1 = H0)) 0 0 (fun _ => False) := by
  refine Met.ofW (cc := prog_10_method_23_code) (maxL := 4) (ret := (some .int)) (by decide) rfl ?_
  intro p e s m args below meth c s₁ B hml hv
  obtain ⟨rfl, hH, hK, hN⟩ := hv
  obtain ⟨hx, hb, hr, htb, hown, hlocks⟩ := x_start (wd := Cond.code y_Mo_rank prog_10_method_23_code 4 (some .int)) B
  have hl := lv_entry ([.ref b, .int (nI i), .int (nI k)]) (n := 4) (Nat.le_of_ble_eq_true rfl)
  rw [lg_entry_eq]
  generalize (lg_sl ([.ref b, .int (nI i), .int (nI k)]) ++ List.replicate (4 - (lg_sl ([.ref b, .int (nI i), .int (nI k)])).length) Slot.unset).toArray = ls at hl ⊢
  have hl : lv_has ls 4 [(0, .ref b), (1, .int (nI i)), (2, .int (nI k))] := hl
  rw [hH]
  obtain ⟨-, ⟨f3, f4, f5, f6⟩, -⟩ := hf
  refine lv_iload_n hx hb d_Mo_rank_0 rfl (lv_at hl 2 rfl) ?_
  refine lv_aload_n hx hb d_Mo_rank_1 rfl (lv_at hl 0 rfl) ?_
  refine x_get (ci := 8) (T := T_Mo) hx hb htb u_Mo hown hK ho rfl 7 (by decide) (htb _ mw_470) (fun _ h9 => h9) (v := .ref (b + 5)) rfl d_Mo_rank_2 ?_
  refine lv_iload_n hx hb d_Mo_rank_5 rfl (lv_at hl 1 rfl) ?_
  refine m_ild hx hb hK hR 5 (by decide) (by decide) rfl (i := i) (show _ < 320 by omega) d_Mo_rank_6 ?_
  refine x_top (y := nI f.1.2.2.length) (f3) ?_
  refine lv_icmp_lt (tgt := 12) hx hb d_Mo_rank_7 (by decide) (fun c1 => ?_) (fun c1 => ?_)
  · have hlt : k < f.1.2.2.length := (nI_ltI (by omega) (by omega)).mp c1
    have hu := g_u f6 k
    refine lv_aload_n hx hb d_Mo_rank_12 rfl (lv_at hl 0 rfl) ?_
    refine x_get (ci := 8) (T := T_Mo) hx hb htb u_Mo hown hK ho rfl 9 (by decide) (htb _ mw_472) (fun _ h9 => h9) (v := .ref (b + 7)) rfl d_Mo_rank_13 ?_
    refine lv_bipush (v := 100) hx hb d_Mo_rank_16 (by decide) ?_
    refine lv_iload_n hx hb d_Mo_rank_18 rfl (lv_at hl 1 rfl) ?_
    refine lv_imul hx hb d_Mo_rank_19 ?_
    refine lv_iload_n hx hb d_Mo_rank_20 rfl (lv_at hl 2 rfl) ?_
    refine lv_iadd hx hb d_Mo_rank_21 ?_
    refine x_top (y := nI (100 * i + k)) (by rw [show (100 : Int32) = nI 100 from rfl, pk_mul, nI_add]) ?_
    refine m_bld hx hb hK hR 7 (by decide) (by decide) rfl (i := 100 * i + k) (show _ < 32000 by omega) d_Mo_rank_22 ?_
    refine x_top (y := sb_b (f.1.2.2.getD k 0)) (f5 k hlt) ?_
    refine lv_sipush (v := 255) hx hb d_Mo_rank_23 (by decide) ?_
    refine lv_iand hx hb d_Mo_rank_26 ?_
    refine x_top (y := nI (f.1.2.2.getD k 0)) (g_and f6 k) ?_
    refine lv_istore_n (lv' := [(3, .int (nI (f.1.2.2.getD k 0))), (0, .ref b), (1, .int (nI i)), (2, .int (nI k))]) hx hb d_Mo_rank_27 rfl hl (by decide) rfl (fun ls hl => ?_)
    refine lv_iload_n hx hb d_Mo_rank_28 rfl (lv_at hl 0 rfl) ?_
    refine lv_bipush (v := 47) hx hb d_Mo_rank_29 (by decide) ?_
    refine lv_icmp_ne (tgt := 38) hx hb d_Mo_rank_31 (by decide) (fun c2 => ?_) (fun c2 => ?_)
    · have e : ¬ f.1.2.2.getD k 0 = 47 := fun e => c2 (by rw [e]; rfl)
      refine lv_iconst (v := 2) hx hb d_Mo_rank_38 (by decide) ?_
      refine lv_iload_n hx hb d_Mo_rank_39 rfl (lv_at hl 0 rfl) ?_
      refine lv_iadd hx hb d_Mo_rank_40 ?_
      exact x_iret hx hb hr hlocks (by unfold m_rk; rw [if_neg (by omega), if_neg e]; exact nI_add 2 _) rfl (fun q hq => by cases hq) (Nat.le_refl _) (Nat.le_refl _) d_Mo_rank_41
    · have e : f.1.2.2.getD k 0 = 47 := (nI_eq (b := 47) (by omega) (by decide)).mp c2
      refine lv_iconst (v := 1) hx hb d_Mo_rank_34 (by decide) ?_
      refine lv_goto (tgt := 41) hx hb d_Mo_rank_35 (by decide) ?_
      exact x_iret hx hb hr hlocks (by unfold m_rk; rw [if_neg (by omega), if_pos e]; rfl) rfl (fun q hq => by cases hq) (Nat.le_refl _) (Nat.le_refl _) d_Mo_rank_41
  · have hge : f.1.2.2.length ≤ k := Nat.le_of_not_lt fun q => c1 (nI_lt q (by omega))
    refine lv_iconst (v := 0) hx hb d_Mo_rank_10 (by decide) ?_
    exact x_iret hx hb hr hlocks (by unfold m_rk; rw [if_pos hge]; rfl) rfl (fun q hq => by cases hq) (Nat.le_refl _) (Nat.le_refl _) d_Mo_rank_11
set_option maxHeartbeats 4000000 in
set_option maxRecDepth 100000 in
theorem c_Mo_isAhead (l : Launch) {D : va_G} {A : Nat → ClassId} {H0 : Heap} {b : Nat} {v0 v1 v2 v3 v4 v5 v6 v7 : Int32} {G : m_G} (ho : m_O D b v0 v1 v2 v3 v4 v5 v6 v7 H0) (hR : m_R D A b G H0) {i j : Nat} {f g : g_F} (hi : i < 320) (hj : j < 320) (hf : m_e G i f) (hg : m_e G j g) (hs : f.1.1 = g.1.1) : Met l y_Mo_isAhead w_Mo_isAhead { frames := 1, cells := 0, slots := 0, locals := 23 } (x_Pc D A [.ref b, .int (nI i), .int (nI j)] H0) (x_Q (some (.int (if g_no f.1 g.1 < 0 then 1 else 0))) (fun H1 => H1 = H0)) 0 0 (fun _ => False) := by
  refine Met.ofW (cc := prog_10_method_24_code) (maxL := 4) (ret := (some .boolean)) (by decide) rfl ?_
  intro p e s m args below meth c s₁ B hml hv
  obtain ⟨rfl, hH, hK, hN⟩ := hv
  obtain ⟨hx, hb, hr, htb, hown, hlocks⟩ := x_start (wd := Cond.code y_Mo_isAhead prog_10_method_24_code 4 (some .boolean)) B
  have hl := lv_entry ([.ref b, .int (nI i), .int (nI j)]) (n := 4) (Nat.le_of_ble_eq_true rfl)
  rw [lg_entry_eq]
  generalize (lg_sl ([.ref b, .int (nI i), .int (nI j)]) ++ List.replicate (4 - (lg_sl ([.ref b, .int (nI i), .int (nI j)])).length) Slot.unset).toArray = ls at hl ⊢
  have hl : lv_has ls 4 [(0, .ref b), (1, .int (nI i)), (2, .int (nI j))] := hl
  rw [hH]
  refine lv_aload_n hx hb d_Mo_isAhead_0 rfl (lv_at hl 0 rfl) ?_
  refine x_get (ci := 8) (T := T_Mo) hx hb htb u_Mo hown hK ho rfl 6 (by decide) (htb _ mw_469) (fun _ h9 => h9) (v := .ref (b + 4)) rfl d_Mo_isAhead_1 ?_
  refine lv_iload_n hx hb d_Mo_isAhead_4 rfl (lv_at hl 1 rfl) ?_
  refine m_ild hx hb hK hR 4 (by decide) (by decide) rfl (i := i) (show _ < 320 by omega) d_Mo_isAhead_5 ?_
  refine x_top (y := f.1.2.1) (hf.1.2) ?_
  refine lv_aload_n hx hb d_Mo_isAhead_6 rfl (lv_at hl 0 rfl) ?_
  refine x_get (ci := 8) (T := T_Mo) hx hb htb u_Mo hown hK ho rfl 6 (by decide) (htb _ mw_469) (fun _ h9 => h9) (v := .ref (b + 4)) rfl d_Mo_isAhead_7 ?_
  refine lv_iload_n hx hb d_Mo_isAhead_10 rfl (lv_at hl 2 rfl) ?_
  refine m_ild hx hb hK hR 4 (by decide) (by decide) rfl (i := j) (show _ < 320 by omega) d_Mo_isAhead_11 ?_
  refine x_top (y := g.1.2.1) (hg.1.2) ?_
  refine lv_icmp_eq (tgt := 36) hx hb d_Mo_isAhead_12 (by decide) (fun c1 => ?_) (fun c1 => ?_)
  · have hno : g_no f.1 g.1 = g_po f.1.2.2 g.1.2.2 := by unfold g_no; rw [if_pos hs, if_pos c1]
    rw [hno]
    refine lv_iconst (v := 0) hx hb d_Mo_isAhead_36 (by decide) ?_
    refine lv_istore_n (lv' := [(3, .int 0), (0, .ref b), (1, .int (nI i)), (2, .int (nI j))]) hx hb d_Mo_isAhead_37 rfl hl (by decide) rfl (fun ls hl => ?_)
    refine x_loop (σ := Nat × Array Slot) (fun z => F0 m 38 z.2 []) (fun _ => H0) (fun _ => []) (fun z => z.1 ≤ 100 ∧ g_po f.1.2.2 g.1.2.2 = g_po (f.1.2.2.drop z.1) (g.1.2.2.drop z.1) ∧ lv_has z.2 4 [(3, .int (nI z.1)), (0, .ref b), (1, .int (nI i)), (2, .int (nI j))]) (fun z => 100 - z.1) (s0 := (0, ls)) ⟨Nat.zero_le _, rfl, (lv_sub hl [0, 1, 2, 3] rfl)⟩ ?_
    clear hl
    rintro ⟨k, ls⟩ ⟨hk, hpo, hl⟩ ih
    dsimp only at hk hpo hl ih ⊢
    refine lv_iload_n hx hb d_Mo_isAhead_38 rfl (lv_at hl 0 rfl) ?_
    refine lv_bipush (v := 100) hx hb d_Mo_isAhead_39 (by decide) ?_
    refine lv_icmp_ge (tgt := 86) hx hb d_Mo_isAhead_41 (by decide) (fun c2 => ?_) (fun c2 => ?_)
    · have e : k = 100 := Nat.le_antisymm hk (Nat.le_of_not_lt fun q => absurd c2 (nI_ge (b := 100) q (by decide)))
      refine lv_iconst (v := 0) hx hb d_Mo_isAhead_86 (by decide) ?_
      exact x_zret hx hb hr hlocks (by rw [if_neg]; rw [hpo, e, List.drop_eq_nil_of_le hf.2.1.2.1, List.drop_eq_nil_of_le hg.2.1.2.1]; decide) (by decide) rfl (fun q hq => by cases hq) (Nat.le_refl _) (Nat.le_refl _) d_Mo_isAhead_87
    · have hlt : k < 100 := Nat.lt_of_not_le fun q => absurd (nI_le (a := 100) q (by omega)) c2
      have l1 := m_rk_lt hf.okp k
      have l2 := m_rk_lt hg.okp k
      refine lv_aload_n hx hb d_Mo_isAhead_44 rfl (lv_at hl 1 rfl) ?_
      refine lv_iload_n hx hb d_Mo_isAhead_45 rfl (lv_at hl 2 rfl) ?_
      refine lv_iload_n hx hb d_Mo_isAhead_46 rfl (lv_at hl 0 rfl) ?_
      refine x_callP (va_runV (As := [.int (nI i), .int (nI k)]) (rest := []) ⟨hx, hb, hml, hown, htb⟩ (c_Mo_rank l ho hR (k := k) hi hlt hf) (x_cV 2 htb mw_625 mw_6 mw_628 mw_627 ms_19 rfl rfl (by decide +kernel) ⟨Nat.le_of_ble_eq_true rfl, Nat.le_of_ble_eq_true rfl⟩) (x_preV hK hN ho rfl) rfl rfl hl.1 rfl (lv_room (Nat.le_of_ble_eq_true rfl)) d_Mo_isAhead_47 ⟨Nat.le_of_ble_eq_true rfl, Nat.le_of_ble_eq_true rfl⟩) ?_
      refine W.eq (g2 := F0 m 50 ls [.int (nI (m_rk f.1.2.2 k))]) rfl ?_
      refine lv_aload_n hx hb d_Mo_isAhead_50 rfl (lv_at hl 1 rfl) ?_
      refine lv_iload_n hx hb d_Mo_isAhead_51 rfl (lv_at hl 3 rfl) ?_
      refine lv_iload_n hx hb d_Mo_isAhead_52 rfl (lv_at hl 0 rfl) ?_
      refine x_callP (va_runV (As := [.int (nI j), .int (nI k)]) (rest := [.int (nI (m_rk f.1.2.2 k))]) ⟨hx, hb, hml, hown, htb⟩ (c_Mo_rank l ho hR (k := k) hj hlt hg) (x_cV 2 htb mw_625 mw_6 mw_628 mw_627 ms_19 rfl rfl (by decide +kernel) ⟨Nat.le_of_ble_eq_true rfl, Nat.le_of_ble_eq_true rfl⟩) (x_preV hK hN ho rfl) rfl rfl hl.1 rfl (lv_room (Nat.le_of_ble_eq_true rfl)) d_Mo_isAhead_53 ⟨Nat.le_of_ble_eq_true rfl, Nat.le_of_ble_eq_true rfl⟩) ?_
      refine W.eq (g2 := F0 m 56 ls [.int (nI (m_rk g.1.2.2 k)), .int (nI (m_rk f.1.2.2 k))]) rfl ?_
      refine lv_icmp_eq (tgt := 80) hx hb d_Mo_isAhead_56 (by decide) (fun c3 => ?_) (fun c3 => ?_)
      · have e : m_rk f.1.2.2 k = m_rk g.1.2.2 k := (nI_eq (by omega) (by omega)).mp c3
        refine lv_iinc (v := nI (k + 1)) (lv' := [(3, .int (nI (k + 1))), (0, .ref b), (1, .int (nI i)), (2, .int (nI j))]) hx hb d_Mo_isAhead_80 hl (k := 0) rfl (nI_1 k) (by decide) rfl (fun ls hl => ?_)
        refine lv_goto (tgt := 38) hx hb d_Mo_isAhead_83 (by decide) ?_
        exact ih (k + 1, ls) ⟨hlt, hpo.trans (m_rk_eq e), (lv_sub hl [0, 1, 2, 3] rfl)⟩ (by show 100 - (k + 1) < 100 - k; omega)
      · have e : ¬ m_rk f.1.2.2 k = m_rk g.1.2.2 k := fun q => c3 (by rw [q])
        have e2 := m_rk_ne hf.okp hg.okp e
        refine lv_aload_n hx hb d_Mo_isAhead_59 rfl (lv_at hl 1 rfl) ?_
        refine lv_iload_n hx hb d_Mo_isAhead_60 rfl (lv_at hl 2 rfl) ?_
        refine lv_iload_n hx hb d_Mo_isAhead_61 rfl (lv_at hl 0 rfl) ?_
        refine x_callP (va_runV (As := [.int (nI i), .int (nI k)]) (rest := []) ⟨hx, hb, hml, hown, htb⟩ (c_Mo_rank l ho hR (k := k) hi hlt hf) (x_cV 2 htb mw_625 mw_6 mw_628 mw_627 ms_19 rfl rfl (by decide +kernel) ⟨Nat.le_of_ble_eq_true rfl, Nat.le_of_ble_eq_true rfl⟩) (x_preV hK hN ho rfl) rfl rfl hl.1 rfl (lv_room (Nat.le_of_ble_eq_true rfl)) d_Mo_isAhead_62 ⟨Nat.le_of_ble_eq_true rfl, Nat.le_of_ble_eq_true rfl⟩) ?_
        refine W.eq (g2 := F0 m 65 ls [.int (nI (m_rk f.1.2.2 k))]) rfl ?_
        refine lv_aload_n hx hb d_Mo_isAhead_65 rfl (lv_at hl 1 rfl) ?_
        refine lv_iload_n hx hb d_Mo_isAhead_66 rfl (lv_at hl 3 rfl) ?_
        refine lv_iload_n hx hb d_Mo_isAhead_67 rfl (lv_at hl 0 rfl) ?_
        refine x_callP (va_runV (As := [.int (nI j), .int (nI k)]) (rest := [.int (nI (m_rk f.1.2.2 k))]) ⟨hx, hb, hml, hown, htb⟩ (c_Mo_rank l ho hR (k := k) hj hlt hg) (x_cV 2 htb mw_625 mw_6 mw_628 mw_627 ms_19 rfl rfl (by decide +kernel) ⟨Nat.le_of_ble_eq_true rfl, Nat.le_of_ble_eq_true rfl⟩) (x_preV hK hN ho rfl) rfl rfl hl.1 rfl (lv_room (Nat.le_of_ble_eq_true rfl)) d_Mo_isAhead_68 ⟨Nat.le_of_ble_eq_true rfl, Nat.le_of_ble_eq_true rfl⟩) ?_
        refine W.eq (g2 := F0 m 71 ls [.int (nI (m_rk g.1.2.2 k)), .int (nI (m_rk f.1.2.2 k))]) rfl ?_
        refine lv_icmp_ge (tgt := 78) hx hb d_Mo_isAhead_71 (by decide) (fun c4 => ?_) (fun c4 => ?_)
        · refine lv_iconst (v := 0) hx hb d_Mo_isAhead_78 (by decide) ?_
          exact x_zret hx hb hr hlocks (by rw [if_neg]; rw [hpo, e2]; exact fun q => absurd c4 (nI_ge q (by omega))) (by decide) rfl (fun q hq => by cases hq) (Nat.le_refl _) (Nat.le_refl _) d_Mo_isAhead_79
        · refine lv_iconst (v := 1) hx hb d_Mo_isAhead_74 (by decide) ?_
          refine lv_goto (tgt := 79) hx hb d_Mo_isAhead_75 (by decide) ?_
          exact x_zret hx hb hr hlocks (by rw [if_pos]; rw [hpo, e2]; exact Nat.lt_of_not_le fun q => c4 (nI_le q (by omega))) (by decide) rfl (fun q hq => by cases hq) (Nat.le_refl _) (Nat.le_refl _) d_Mo_isAhead_79
  · have hno : g_no f.1 g.1 = g_cmp f.1.2.1 g.1.2.1 := by unfold g_no; rw [if_pos hs, if_neg c1]
    rw [hno]
    refine lv_aload_n hx hb d_Mo_isAhead_15 rfl (lv_at hl 0 rfl) ?_
    refine x_get (ci := 8) (T := T_Mo) hx hb htb u_Mo hown hK ho rfl 6 (by decide) (htb _ mw_469) (fun _ h9 => h9) (v := .ref (b + 4)) rfl d_Mo_isAhead_16 ?_
    refine lv_iload_n hx hb d_Mo_isAhead_19 rfl (lv_at hl 1 rfl) ?_
    refine m_ild hx hb hK hR 4 (by decide) (by decide) rfl (i := i) (show _ < 320 by omega) d_Mo_isAhead_20 ?_
    refine x_top (y := f.1.2.1) (hf.1.2) ?_
    refine lv_aload_n hx hb d_Mo_isAhead_21 rfl (lv_at hl 0 rfl) ?_
    refine x_get (ci := 8) (T := T_Mo) hx hb htb u_Mo hown hK ho rfl 6 (by decide) (htb _ mw_469) (fun _ h9 => h9) (v := .ref (b + 4)) rfl d_Mo_isAhead_22 ?_
    refine lv_iload_n hx hb d_Mo_isAhead_25 rfl (lv_at hl 2 rfl) ?_
    refine m_ild hx hb hK hR 4 (by decide) (by decide) rfl (i := j) (show _ < 320 by omega) d_Mo_isAhead_26 ?_
    refine x_top (y := g.1.2.1) (hg.1.2) ?_
    refine lv_icmp_ge (tgt := 34) hx hb d_Mo_isAhead_27 (by decide) (fun c2 => ?_) (fun c2 => ?_)
    · refine lv_iconst (v := 0) hx hb d_Mo_isAhead_34 (by decide) ?_
      exact x_zret hx hb hr hlocks (by rw [if_neg]; rw [g_cmp_neg]; exact Int32.not_lt.mpr c2) (by decide) rfl (fun q hq => by cases hq) (Nat.le_refl _) (Nat.le_refl _) d_Mo_isAhead_35
    · refine lv_iconst (v := 1) hx hb d_Mo_isAhead_30 (by decide) ?_
      refine lv_goto (tgt := 35) hx hb d_Mo_isAhead_31 (by decide) ?_
      exact x_zret hx hb hr hlocks (by rw [if_pos]; rw [g_cmp_neg]; exact Int32.not_le.mp c2) (by decide) rfl (fun q hq => by cases hq) (Nat.le_refl _) (Nat.le_refl _) d_Mo_isAhead_35
set_option maxHeartbeats 4000000 in
set_option maxRecDepth 100000 in
theorem c_Mo_count (l : Launch) {D : va_G} {A : Nat → ClassId} {H0 : Heap} {b : Nat} {th : Int32} {S : m_S} (h : m_M D A b th S H0) (x : Int32) : Met l y_Mo_count w_Mo_count { frames := 0, cells := 0, slots := 0, locals := 0 } (x_Pc D A [.ref b, .int x] H0) (x_Q (some (.int (m_cntv S x))) (fun H1 => m_M D A b 0 S H1 ∧ m_K b H0 H1)) 0 0 (m_fq b) := by
  refine Met.ofW (cc := prog_10_method_27_code) (maxL := 4) (ret := (some .int)) (by decide) rfl ?_
  intro p e s m args below meth c s₁ B hml hv
  obtain ⟨rfl, hH, hK, hN⟩ := hv
  obtain ⟨hx, hb, hr, htb, hown, hlocks⟩ := x_start (wd := Cond.code y_Mo_count prog_10_method_27_code 4 (some .int)) B
  have hl := lv_entry ([.ref b, .int x]) (n := 4) (Nat.le_of_ble_eq_true rfl)
  rw [lg_entry_eq]
  generalize (lg_sl ([.ref b, .int x]) ++ List.replicate (4 - (lg_sl ([.ref b, .int x])).length) Slot.unset).toArray = ls at hl ⊢
  have hl : lv_has ls 4 [(0, .ref b), (1, .int x)] := hl
  rw [hH]
  obtain ⟨G, ho, hR, hV⟩ := h
  obtain ⟨w1, w2, ⟨w3, w4⟩, ⟨w5, w6⟩, ⟨w7, w8⟩, w9, w10⟩ := id hV
  have hM : m_K b H0 H0 := m_K.refl
  have hL : ∀ q ∈ ([] : List Loc), m_fq b q.base := fun q hq => by cases hq
  refine lv_aload_n hx hb d_Mo_count_0 rfl (lv_at hl 0 rfl) ?_
  refine lv_iconst (v := 0) hx hb d_Mo_count_1 (by decide) ?_
  refine x_put (F := m_fq b) (ci := 8) (v := .int 0) (ty := .int) (T := T_Mo) hx hb htb u_Mo t_Mo t_Mo_ok n_Mo hown hK ho hL ⟨Nat.le_refl _, Nat.le_add_right _ _⟩ rfl 0 (by decide) (htb _ mw_463) (fun _ h9 => h9) rfl (by decide +kernel) rfl rfl (Nat.le_of_ble_eq_true rfl) d_Mo_count_2 (fun Ht locs hf1 hc2 hL => ?_)
  have hf1 : va_at D x_cl (b, .inr (8, [.int 0, .ref (b + 1), .ref (b + 2), .int (nI S.1.length), .int (nI S.2.1.length), .ref (b + 3), .ref (b + 4), .ref (b + 5), .ref (b + 6), .ref (b + 7), .ref (b + 8), .int (nI S.2.2.1.length), .int (nI S.2.2.2.1.length), .int (nI S.2.2.2.2.1.length), .int (nI S.2.2.2.2.2.1), .ref (b + 9), .ref (b + 10), .ref (b + 11), .int (nI S.2.2.2.2.2.2.length), .ref (b + 12), .ref (b + 13), .ref (b + 14), .ref (b + 15)])) Ht := hf1
  have ho : m_O D b 0 (nI S.1.length) (nI S.2.1.length) (nI S.2.2.1.length) (nI S.2.2.2.1.length) (nI S.2.2.2.2.1.length) (nI S.2.2.2.2.2.1) (nI S.2.2.2.2.2.2.length) Ht := hf1
  have hR := hR.but0 hc2
  have hM := hM.trans (m_K.but0 hc2)
  refine lv_iload_n hx hb d_Mo_count_5 rfl (lv_at hl 1 rfl) ?_
  refine lv_if_lt (tgt := 15) hx hb d_Mo_count_6 (by decide) (fun c1 => ?_) (fun c1 => ?_)
  · refine lv_iconst (v := (-1)) hx hb d_Mo_count_15 (by decide) ?_
    exact x_iret hx hb hr hlocks (by unfold m_cntv; rw [if_neg (fun q => q.1 c1), if_neg (fun e => by rw [e] at c1; exact absurd c1 (by decide)), if_neg (fun e => by rw [e] at c1; exact absurd c1 (by decide)), if_neg (fun e => by rw [e] at c1; exact absurd c1 (by decide)), if_neg (fun e => by rw [e] at c1; exact absurd c1 (by decide))]) ⟨m_M.th ho hR hV rfl rfl rfl rfl rfl rfl rfl, hM⟩ hL (Nat.le_refl _) (Nat.le_refl _) d_Mo_count_16
  · refine lv_iload_n hx hb d_Mo_count_9 rfl (lv_at hl 1 rfl) ?_
    refine lv_bipush (v := 10) hx hb d_Mo_count_10 (by decide) ?_
    refine lv_icmp_le (tgt := 17) hx hb d_Mo_count_12 (by decide) (fun c2 => ?_) (fun c2 => ?_)
    · refine lv_iconst (v := 0) hx hb d_Mo_count_17 (by decide) ?_
      refine lv_istore_n (lv' := [(2, .int 0), (0, .ref b), (1, .int x)]) hx hb d_Mo_count_18 rfl hl (by decide) rfl (fun ls hl => ?_)
      refine lv_iconst (v := 0) hx hb d_Mo_count_19 (by decide) ?_
      refine lv_istore_n (lv' := [(3, .int 0), (2, .int 0), (0, .ref b), (1, .int x)]) hx hb d_Mo_count_20 rfl hl (by decide) rfl (fun ls hl => ?_)
      refine x_loop (σ := Nat × m_G × Heap × List Loc × Array Slot) (fun z => F0 m 21 z.2.2.2.2 []) (fun z => z.2.2.1) (fun z => z.2.2.2.1) (fun z => z.1 ≤ S.2.2.1.length ∧ m_O D b 0 (nI S.1.length) (nI S.2.1.length) (nI S.2.2.1.length) (nI S.2.2.2.1.length) (nI S.2.2.2.2.1.length) (nI S.2.2.2.2.2.1) (nI S.2.2.2.2.2.2.length) z.2.2.1 ∧ m_R D A b z.2.1 z.2.2.1 ∧ m_K b H0 z.2.2.1 ∧ (∀ q ∈ z.2.2.2.1, m_fq b q.base) ∧ z.2.1 = G ∧ lv_has z.2.2.2.2 4 [(3, .int (nI z.1)), (2, .int (nI ((S.2.2.1.take z.1).countP (fun f => decide (f.1.1 = x))))), (0, .ref b), (1, .int x)]) (fun z => S.2.2.1.length - z.1) (s0 := (0, G, Ht, _, ls)) ⟨Nat.zero_le _, ho, hR, hM, hL, rfl, (lv_sub hl [0, 1, 2, 3] rfl)⟩ ?_
      clear hR ho hM hL hl
      rintro ⟨k, G5, H, locs, ls⟩ ⟨hk, ho, hR, hM, hL, eG5, hl⟩ ih
      dsimp only at hk ho hR hM hL eG5 hl ih ⊢
      rw [eG5] at hR
      have hcl := g_cnt_le S.2.2.1 x k
      refine lv_iload_n hx hb d_Mo_count_21 rfl (lv_at hl 0 rfl) ?_
      refine lv_aload_n hx hb d_Mo_count_22 rfl (lv_at hl 2 rfl) ?_
      refine x_get (ci := 8) (T := T_Mo) hx hb htb u_Mo hown hK ho rfl 11 (by decide) (htb _ mw_474) (fun _ h9 => h9) (v := .int (nI S.2.2.1.length)) rfl d_Mo_count_23 ?_
      refine lv_icmp_ge (tgt := 53) hx hb d_Mo_count_26 (by decide) (fun c3 => ?_) (fun c3 => ?_)
      · have e : k = S.2.2.1.length := Nat.le_antisymm hk (Nat.le_of_not_lt fun q => absurd c3 (nI_ge q (by omega)))
        subst e
        rw [List.take_length] at hl
        refine lv_iload_n hx hb d_Mo_count_53 rfl (lv_at hl 3 rfl) ?_
        refine lv_bipush (v := 7) hx hb d_Mo_count_54 (by decide) ?_
        refine lv_icmp_ge (tgt := 63) hx hb d_Mo_count_56 (by decide) (fun c4 => ?_) (fun c4 => ?_)
        · refine lv_iload_n hx hb d_Mo_count_63 rfl (lv_at hl 3 rfl) ?_
          refine lv_bipush (v := 7) hx hb d_Mo_count_64 (by decide) ?_
          refine lv_icmp_ne (tgt := 76) hx hb d_Mo_count_66 (by decide) (fun c5 => ?_) (fun c5 => ?_)
          · refine lv_iload_n hx hb d_Mo_count_76 rfl (lv_at hl 3 rfl) ?_
            refine lv_bipush (v := 8) hx hb d_Mo_count_77 (by decide) ?_
            refine lv_icmp_ne (tgt := 89) hx hb d_Mo_count_79 (by decide) (fun c6 => ?_) (fun c6 => ?_)
            · refine lv_iload_n hx hb d_Mo_count_89 rfl (lv_at hl 3 rfl) ?_
              refine lv_bipush (v := 9) hx hb d_Mo_count_90 (by decide) ?_
              refine lv_icmp_ne (tgt := 102) hx hb d_Mo_count_92 (by decide) (fun c7 => ?_) (fun c7 => ?_)
              · refine lv_aload_n hx hb d_Mo_count_102 rfl (lv_at hl 2 rfl) ?_
                refine x_get (ci := 8) (T := T_Mo) hx hb htb u_Mo hown hK ho rfl 14 (by decide) (htb _ mw_477) (fun _ h9 => h9) (v := .int (nI S.2.2.2.2.2.1)) rfl d_Mo_count_103 ?_
                have e10 : x = 10 := ((x_in4 (x := x) (fun q => q.elim (fun q => absurd c4 (Int32.not_le.mpr (Int32.lt_iff_toInt_lt.mpr q))) (fun q => absurd c2 (Int32.not_le.mpr (Int32.lt_iff_toInt_lt.mpr q))))).resolve_left c5).resolve_left c6 |>.resolve_left c7
                exact x_iret hx hb hr hlocks (by unfold m_cntv; rw [if_neg (fun q => absurd q.2 (Int32.not_lt.mpr c4)), if_neg c5, if_neg c6, if_neg c7, if_pos e10]) ⟨m_M.th ho hR hV rfl rfl rfl rfl rfl rfl rfl, hM⟩ hL (Nat.le_refl _) (Nat.le_refl _) d_Mo_count_106
              · refine lv_aload_n hx hb d_Mo_count_95 rfl (lv_at hl 2 rfl) ?_
                refine x_get (ci := 8) (T := T_Mo) hx hb htb u_Mo hown hK ho rfl 3 (by decide) (htb _ mw_466) (fun _ h9 => h9) (v := .int (nI S.1.length)) rfl d_Mo_count_96 ?_
                refine lv_goto (tgt := 106) hx hb d_Mo_count_99 (by decide) ?_
                exact x_iret hx hb hr hlocks (by unfold m_cntv; rw [if_neg (fun q => absurd q.2 (Int32.not_lt.mpr c4)), if_neg c5, if_neg c6, if_pos c7]) ⟨m_M.th ho hR hV rfl rfl rfl rfl rfl rfl rfl, hM⟩ hL (Nat.le_refl _) (Nat.le_refl _) d_Mo_count_106
            · refine lv_aload_n hx hb d_Mo_count_82 rfl (lv_at hl 2 rfl) ?_
              refine x_get (ci := 8) (T := T_Mo) hx hb htb u_Mo hown hK ho rfl 13 (by decide) (htb _ mw_476) (fun _ h9 => h9) (v := .int (nI S.2.2.2.2.1.length)) rfl d_Mo_count_83 ?_
              refine lv_goto (tgt := 106) hx hb d_Mo_count_86 (by decide) ?_
              exact x_iret hx hb hr hlocks (by unfold m_cntv; rw [if_neg (fun q => absurd q.2 (Int32.not_lt.mpr c4)), if_neg c5, if_pos c6]) ⟨m_M.th ho hR hV rfl rfl rfl rfl rfl rfl rfl, hM⟩ hL (Nat.le_refl _) (Nat.le_refl _) d_Mo_count_106
          · refine lv_aload_n hx hb d_Mo_count_69 rfl (lv_at hl 2 rfl) ?_
            refine x_get (ci := 8) (T := T_Mo) hx hb htb u_Mo hown hK ho rfl 11 (by decide) (htb _ mw_474) (fun _ h9 => h9) (v := .int (nI S.2.2.1.length)) rfl d_Mo_count_70 ?_
            refine lv_goto (tgt := 106) hx hb d_Mo_count_73 (by decide) ?_
            exact x_iret hx hb hr hlocks (by unfold m_cntv; rw [if_neg (fun q => absurd q.2 (Int32.not_lt.mpr c4)), if_pos c5]) ⟨m_M.th ho hR hV rfl rfl rfl rfl rfl rfl rfl, hM⟩ hL (Nat.le_refl _) (Nat.le_refl _) d_Mo_count_106
        · refine lv_iload_n hx hb d_Mo_count_59 rfl (lv_at hl 1 rfl) ?_
          refine lv_goto (tgt := 106) hx hb d_Mo_count_60 (by decide) ?_
          exact x_iret hx hb hr hlocks (by unfold m_cntv; rw [if_pos ⟨c1, Int32.not_le.mp c4⟩]; rfl) ⟨m_M.th ho hR hV rfl rfl rfl rfl rfl rfl rfl, hM⟩ hL (Nat.le_refl _) (Nat.le_refl _) d_Mo_count_106
      · have hlt : k < S.2.2.1.length := Nat.lt_of_not_le fun q => absurd (nI_le q (by omega)) c3
        obtain ⟨f, hff⟩ := g_ex hlt
        have hfe : m_e G k f := w3 k f hff
        have htk := g_take hff
        refine lv_iload_n hx hb d_Mo_count_29 rfl (lv_at hl 1 rfl) ?_
        refine lv_aload_n hx hb d_Mo_count_30 rfl (lv_at hl 2 rfl) ?_
        refine x_get (ci := 8) (T := T_Mo) hx hb htb u_Mo hown hK ho rfl 5 (by decide) (htb _ mw_468) (fun _ h9 => h9) (v := .ref (b + 3)) rfl d_Mo_count_31 ?_
        refine lv_iload_n hx hb d_Mo_count_34 rfl (lv_at hl 0 rfl) ?_
        refine m_ild hx hb hK hR 3 (by decide) (by decide) rfl (i := k) (show _ < 320 by omega) d_Mo_count_35 ?_
        refine x_top (y := f.1.1) (hfe.1.1) ?_
        refine lv_iload_n hx hb d_Mo_count_36 rfl (lv_at hl 3 rfl) ?_
        refine lv_icmp_ne (tgt := 44) hx hb d_Mo_count_37 (by decide) (fun c4 => ?_) (fun c4 => ?_)
        · refine lv_iconst (v := 0) hx hb d_Mo_count_44 (by decide) ?_
          refine lv_iadd hx hb d_Mo_count_45 ?_
          refine x_top (y := nI ((S.2.2.1.take (k + 1)).countP (fun f => decide (f.1.1 = x)))) (by rw [htk, List.countP_append, List.countP_singleton, decide_eq_false c4]; exact Int32.add_zero _) ?_
          refine lv_istore_n (lv' := [(2, .int (nI ((S.2.2.1.take (k + 1)).countP (fun f => decide (f.1.1 = x))))), (3, .int (nI k)), (0, .ref b), (1, .int x)]) hx hb d_Mo_count_46 rfl hl (by decide) rfl (fun ls hl => ?_)
          refine lv_iinc (v := nI (k + 1)) (lv' := [(3, .int (nI (k + 1))), (2, .int (nI ((S.2.2.1.take (k + 1)).countP (fun f => decide (f.1.1 = x))))), (0, .ref b), (1, .int x)]) hx hb d_Mo_count_47 hl (k := 1) rfl (nI_1 k) (by decide) rfl (fun ls hl => ?_)
          refine lv_goto (tgt := 21) hx hb d_Mo_count_50 (by decide) ?_
          exact ih (k + 1, G, H, locs, ls) ⟨hlt, ho, hR, hM, hL, rfl, (lv_sub hl [0, 1, 2, 3] rfl)⟩ (by show S.2.2.1.length - (k + 1) < S.2.2.1.length - k; omega)
        · refine lv_iconst (v := 1) hx hb d_Mo_count_40 (by decide) ?_
          refine lv_goto (tgt := 45) hx hb d_Mo_count_41 (by decide) ?_
          refine lv_iadd hx hb d_Mo_count_45 ?_
          refine x_top (y := nI ((S.2.2.1.take (k + 1)).countP (fun f => decide (f.1.1 = x)))) (by rw [htk, List.countP_append, List.countP_singleton, decide_eq_true c4]; exact nI_1 _) ?_
          refine lv_istore_n (lv' := [(2, .int (nI ((S.2.2.1.take (k + 1)).countP (fun f => decide (f.1.1 = x))))), (3, .int (nI k)), (0, .ref b), (1, .int x)]) hx hb d_Mo_count_46 rfl hl (by decide) rfl (fun ls hl => ?_)
          refine lv_iinc (v := nI (k + 1)) (lv' := [(3, .int (nI (k + 1))), (2, .int (nI ((S.2.2.1.take (k + 1)).countP (fun f => decide (f.1.1 = x))))), (0, .ref b), (1, .int x)]) hx hb d_Mo_count_47 hl (k := 1) rfl (nI_1 k) (by decide) rfl (fun ls hl => ?_)
          refine lv_goto (tgt := 21) hx hb d_Mo_count_50 (by decide) ?_
          exact ih (k + 1, G, H, locs, ls) ⟨hlt, ho, hR, hM, hL, rfl, (lv_sub hl [0, 1, 2, 3] rfl)⟩ (by show S.2.2.1.length - (k + 1) < S.2.2.1.length - k; omega)
    · refine lv_iconst (v := (-1)) hx hb d_Mo_count_15 (by decide) ?_
      exact x_iret hx hb hr hlocks (by unfold m_cntv; rw [if_neg (fun q => c2 (Int32.le_of_lt (Int32.lt_trans q.2 (by decide)))), if_neg (fun e => c2 (by rw [e]; decide)), if_neg (fun e => c2 (by rw [e]; decide)), if_neg (fun e => c2 (by rw [e]; decide)), if_neg (fun e => c2 (by rw [e]; decide))]) ⟨m_M.th ho hR hV rfl rfl rfl rfl rfl rfl rfl, hM⟩ hL (Nat.le_refl _) (Nat.le_refl _) d_Mo_count_16
