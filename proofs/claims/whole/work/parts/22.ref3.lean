theorem m_g1 {fs : List g_F} {n : g_N} {i : Nat} {f : g_F} (hk : ∀ (j : Nat) (f : g_F), j < i → fs[j]? = some f → ¬ n = f.1) (hn : g_okp n.2.2) (hfs : ∀ f ∈ fs, g_okp f.1.2.2) (hf : fs[i]? = some f) (h0 : n = f.1) : g_find fs n = some i :=
  g_find_some (fun j g hj hg => fun q => hk j g hj hg ((g_no0 hn (hfs g (List.mem_of_getElem? hg))).mp q)) hf ((g_no0 hn (hfs f (List.mem_of_getElem? hf))).mpr h0)
theorem m_g0 {fs : List g_F} {n : g_N} (hk : ∀ (j : Nat) (f : g_F), j < fs.length → fs[j]? = some f → ¬ n = f.1) (hn : g_okp n.2.2) (hfs : ∀ f ∈ fs, g_okp f.1.2.2) : g_find fs n = none :=
  g_find_none (fun j g hj hg => fun q => hk j g hj hg ((g_no0 hn (hfs g (List.mem_of_getElem? hg))).mp q))
theorem m_L.okp {G : m_G} {o : Nat} {fs : List g_F} (h : m_L G o fs) : ∀ f ∈ fs, g_okp f.1.2.2 := fun f hf => by
  obtain ⟨i, hi⟩ := List.getElem?_of_mem hf
  exact (h i f hi).okp
theorem g_ne1 {a b : g_N} (h : ¬ b.1 = a.1) : ¬ a = b := fun e => h (by rw [e])
theorem g_ne2 {a b : g_N} (h : ¬ b.2.1 = a.2.1) : ¬ a = b := fun e => h (by rw [e])
theorem g_ne3 {a b : g_N} (h : ¬ b.2.2 = a.2.2) : ¬ a = b := fun e => h (by rw [e])
theorem g_eq3 {a b : g_N} (h1 : b.1 = a.1) (h2 : b.2.1 = a.2.1) (h3 : b.2.2 = a.2.2) : a = b := by
  obtain ⟨a1, a2, a3⟩ := a
  obtain ⟨b1, b2, b3⟩ := b
  dsimp only at h1 h2 h3
  rw [h1, h2, h3]
def g_okv (x y : Int32) : Int32 := if x < 0 then 0 else if 7 ≤ x then 0 else if y < 0 then 0 else 1
theorem g_okv1 {x y : Int32} (h : g_ok x y) : g_okv x y = 1 := by
  unfold g_okv
  rw [if_neg h.1.1, if_neg (Int32.not_le.mpr h.1.2), if_neg h.2]
theorem g_okv0 {x y : Int32} (h : ¬ g_ok x y) : g_okv x y = 0 := by
  unfold g_okv
  by_cases c1 : x < 0
  · rw [if_pos c1]
  · rw [if_neg c1]
    by_cases c2 : 7 ≤ x
    · rw [if_pos c2]
    · rw [if_neg c2]
      by_cases c3 : y < 0
      · rw [if_pos c3]
      · exact absurd ⟨⟨c1, Int32.not_le.mp c2⟩, c3⟩ h
set_option maxHeartbeats 4000000 in
set_option maxRecDepth 100000 in
theorem c_Mo_find (l : Launch) {D : va_G} {A : Nat → ClassId} {H0 : Heap} {b : Nat} {v0 v1 v2 v4 v5 v6 v7 : Int32} {G : m_G} {fs : List g_F} (ho : m_O D b v0 v1 v2 (nI fs.length) v4 v5 v6 v7 H0) (hR : m_R D A b G H0) {j0 : Nat} {f0 : g_F} {n : g_N} (hfl : fs.length ≤ 60) (hfs : m_L G 0 fs) (hj : j0 < 320) (hf0 : m_e G j0 f0) (hn : n.2.2 = f0.1.2.2) : Met l y_Mo_find w_Mo_find { frames := 1, cells := 0, slots := 0, locals := 24 } (x_Pc D A [.ref b, .int n.1, .int n.2.1, .int (nI j0)] H0) (x_Q (some (.int (g_ixv (g_find fs n)))) (fun H1 => H1 = H0)) 0 0 (fun _ => False) := by
  refine Met.ofW (cc := prog_10_method_8_code) (maxL := 5) (ret := (some .int)) (by decide) rfl ?_
  intro p e s m args below meth c s₁ B hml hv
  obtain ⟨rfl, hH, hK, hN⟩ := hv
  obtain ⟨hx, hb, hr, htb, hown, hlocks⟩ := x_start (wd := Cond.code y_Mo_find prog_10_method_8_code 5 (some .int)) B
  have hl := lv_entry ([.ref b, .int n.1, .int n.2.1, .int (nI j0)]) (n := 5) (Nat.le_of_ble_eq_true rfl)
  rw [lg_entry_eq]
  generalize (lg_sl ([.ref b, .int n.1, .int n.2.1, .int (nI j0)]) ++ List.replicate (5 - (lg_sl ([.ref b, .int n.1, .int n.2.1, .int (nI j0)])).length) Slot.unset).toArray = ls at hl ⊢
  have hl : lv_has ls 5 [(0, .ref b), (1, .int n.1), (2, .int n.2.1), (3, .int (nI j0))] := hl
  rw [hH]
  have hokn : g_okp n.2.2 := by rw [hn]; exact hf0.okp
  refine lv_iconst (v := 0) hx hb d_Mo_find_0 (by decide) ?_
  refine lv_istore (lv' := [(4, .int 0), (0, .ref b), (1, .int n.1), (2, .int n.2.1), (3, .int (nI j0))]) hx hb d_Mo_find_1 hl (by decide) rfl (fun ls hl => ?_)
  refine x_loop (σ := Nat × Array Slot) (fun z => F0 m 3 z.2 []) (fun _ => H0) (fun _ => []) (fun z => z.1 ≤ fs.length ∧ (∀ (j : Nat) (f : g_F), j < z.1 → fs[j]? = some f → ¬ n = f.1) ∧ lv_has z.2 5 [(4, .int (nI z.1)), (0, .ref b), (1, .int n.1), (2, .int n.2.1), (3, .int (nI j0))]) (fun z => fs.length - z.1) (s0 := (0, ls)) ⟨Nat.zero_le _, (fun j f q => absurd q (Nat.not_lt_zero j)), (lv_sub hl [0, 1, 2, 3, 4] rfl)⟩ ?_
  clear hl
  rintro ⟨k, ls⟩ ⟨hk, hno, hl⟩ ih
  dsimp only at hk hno hl ih ⊢
  refine lv_iload hx hb d_Mo_find_3 (lv_at hl 0 rfl) ?_
  refine lv_aload_n hx hb d_Mo_find_5 rfl (lv_at hl 1 rfl) ?_
  refine x_get (ci := 8) (T := T_Mo) hx hb htb u_Mo hown hK ho rfl 11 (by decide) (htb _ mw_474) (fun _ h9 => h9) (v := .int (nI fs.length)) rfl d_Mo_find_6 ?_
  refine lv_icmp_ge (tgt := 53) hx hb d_Mo_find_9 (by decide) (fun c1 => ?_) (fun c1 => ?_)
  · have e : k = fs.length := Nat.le_antisymm hk (Nat.le_of_not_lt fun q => absurd c1 (nI_ge q (by omega)))
    refine lv_iconst (v := (-1)) hx hb d_Mo_find_53 (by decide) ?_
    exact x_iret hx hb hr hlocks (by rw [m_g0 (fun j f q => hno j f (by rw [e]; exact q)) hokn hfs.okp]; rfl) rfl (fun q hq => by cases hq) (Nat.le_refl _) (Nat.le_refl _) d_Mo_find_54
  · have hlt : k < fs.length := Nat.lt_of_not_le fun q => absurd (nI_le q (by omega)) c1
    obtain ⟨f, hff⟩ := g_ex hlt
    have hfe : m_e G k f := hfs k f hff
    refine lv_aload_n hx hb d_Mo_find_12 rfl (lv_at hl 1 rfl) ?_
    refine x_get (ci := 8) (T := T_Mo) hx hb htb u_Mo hown hK ho rfl 5 (by decide) (htb _ mw_468) (fun _ h9 => h9) (v := .ref (b + 3)) rfl d_Mo_find_13 ?_
    refine lv_iload hx hb d_Mo_find_16 (lv_at hl 0 rfl) ?_
    refine m_ild hx hb hK hR 3 (by decide) (by decide) rfl (i := k) (show _ < 320 by omega) d_Mo_find_18 ?_
    refine x_top (y := f.1.1) (hfe.1.1) ?_
    refine lv_iload_n hx hb d_Mo_find_19 rfl (lv_at hl 2 rfl) ?_
    refine lv_icmp_ne (tgt := 47) hx hb d_Mo_find_20 (by decide) (fun c2 => ?_) (fun c2 => ?_)
    · refine lv_iinc (v := nI (k + 1)) (lv' := [(4, .int (nI (k + 1))), (0, .ref b), (1, .int n.1), (2, .int n.2.1), (3, .int (nI j0))]) hx hb d_Mo_find_47 hl (k := 0) rfl (nI_1 k) (by decide) rfl (fun ls hl => ?_)
      refine lv_goto (tgt := 3) hx hb d_Mo_find_50 (by decide) ?_
      refine ih (k + 1, ls) ⟨hlt, fun j f' q q2 => ?_, (lv_sub hl [0, 1, 2, 3, 4] rfl)⟩ (by show fs.length - (k + 1) < fs.length - k; omega)
      rcases Nat.lt_succ_iff_lt_or_eq.mp q with q | q
      · exact hno j f' q q2
      · subst q
        rw [hff] at q2
        cases q2
        exact g_ne1 c2
    · refine lv_aload_n hx hb d_Mo_find_23 rfl (lv_at hl 1 rfl) ?_
      refine x_get (ci := 8) (T := T_Mo) hx hb htb u_Mo hown hK ho rfl 6 (by decide) (htb _ mw_469) (fun _ h9 => h9) (v := .ref (b + 4)) rfl d_Mo_find_24 ?_
      refine lv_iload hx hb d_Mo_find_27 (lv_at hl 0 rfl) ?_
      refine m_ild hx hb hK hR 4 (by decide) (by decide) rfl (i := k) (show _ < 320 by omega) d_Mo_find_29 ?_
      refine x_top (y := f.1.2.1) (hfe.1.2) ?_
      refine lv_iload_n hx hb d_Mo_find_30 rfl (lv_at hl 3 rfl) ?_
      refine lv_icmp_ne (tgt := 47) hx hb d_Mo_find_31 (by decide) (fun c3 => ?_) (fun c3 => ?_)
      · refine lv_iinc (v := nI (k + 1)) (lv' := [(4, .int (nI (k + 1))), (0, .ref b), (1, .int n.1), (2, .int n.2.1), (3, .int (nI j0))]) hx hb d_Mo_find_47 hl (k := 0) rfl (nI_1 k) (by decide) rfl (fun ls hl => ?_)
        refine lv_goto (tgt := 3) hx hb d_Mo_find_50 (by decide) ?_
        refine ih (k + 1, ls) ⟨hlt, fun j f' q q2 => ?_, (lv_sub hl [0, 1, 2, 3, 4] rfl)⟩ (by show fs.length - (k + 1) < fs.length - k; omega)
        rcases Nat.lt_succ_iff_lt_or_eq.mp q with q | q
        · exact hno j f' q q2
        · subst q
          rw [hff] at q2
          cases q2
          exact g_ne2 c3
      · refine lv_aload_n hx hb d_Mo_find_34 rfl (lv_at hl 1 rfl) ?_
        refine lv_iload hx hb d_Mo_find_35 (lv_at hl 0 rfl) ?_
        refine lv_iload_n hx hb d_Mo_find_37 rfl (lv_at hl 4 rfl) ?_
        refine x_callP (va_runV (As := [.int (nI k), .int (nI j0)]) (rest := []) ⟨hx, hb, hml, hown, htb⟩ (c_Mo_hasPath l ho hR (by omega) hj hfe hf0) (x_cV 2 htb mw_577 mw_6 mw_580 mw_579 ms_14 rfl rfl (by decide +kernel) ⟨Nat.le_of_ble_eq_true rfl, Nat.le_of_ble_eq_true rfl⟩) (x_preV hK hN ho rfl) rfl rfl hl.1 rfl (lv_room (Nat.le_of_ble_eq_true rfl)) d_Mo_find_38 ⟨Nat.le_of_ble_eq_true rfl, Nat.le_of_ble_eq_true rfl⟩) ?_
        refine W.eq (g2 := F0 m 41 ls [.int (if f.1.2.2 = f0.1.2.2 then 1 else 0)]) rfl ?_
        refine lv_if_eq (tgt := 47) hx hb d_Mo_find_41 (by decide) (fun c4 => ?_) (fun c4 => ?_)
        · have e5 : ¬ f.1.2.2 = n.2.2 := fun q => by rw [← hn, if_pos q] at c4; exact absurd c4 (by decide)
          refine lv_iinc (v := nI (k + 1)) (lv' := [(4, .int (nI (k + 1))), (0, .ref b), (1, .int n.1), (2, .int n.2.1), (3, .int (nI j0))]) hx hb d_Mo_find_47 hl (k := 0) rfl (nI_1 k) (by decide) rfl (fun ls hl => ?_)
          refine lv_goto (tgt := 3) hx hb d_Mo_find_50 (by decide) ?_
          refine ih (k + 1, ls) ⟨hlt, fun j f' q q2 => ?_, (lv_sub hl [0, 1, 2, 3, 4] rfl)⟩ (by show fs.length - (k + 1) < fs.length - k; omega)
          rcases Nat.lt_succ_iff_lt_or_eq.mp q with q | q
          · exact hno j f' q q2
          · subst q
            rw [hff] at q2
            cases q2
            exact g_ne3 e5
        · have e5 : f.1.2.2 = n.2.2 := Decidable.byContradiction fun q => c4 (by rw [← hn, if_neg q])
          refine lv_iload hx hb d_Mo_find_44 (lv_at hl 0 rfl) ?_
          exact x_iret hx hb hr hlocks (by rw [m_g1 hno hokn hfs.okp hff (g_eq3 c2 c3 e5)]; rfl) rfl (fun q hq => by cases hq) (Nat.le_refl _) (Nat.le_refl _) d_Mo_find_46
set_option maxHeartbeats 4000000 in
set_option maxRecDepth 100000 in
theorem c_Mo_isName (l : Launch) {D : va_G} {A : Nat → ClassId} {H0 : Heap} (x y : Int32) : Met l y_Mo_isName w_Mo_isName { frames := 0, cells := 0, slots := 0, locals := 0 } (x_Pc D A [.int x, .int y] H0) (x_Q (some (.int (g_okv x y))) (fun H1 => H1 = H0)) 0 0 (fun _ => False) := by
  refine Met.ofW (cc := prog_10_method_12_code) (maxL := 2) (ret := (some .boolean)) (by decide) rfl ?_
  intro p e s m args below meth c s₁ B hml hv
  obtain ⟨rfl, hH, hK, hN⟩ := hv
  obtain ⟨hx, hb, hr, htb, hown, hlocks⟩ := x_start (wd := Cond.code y_Mo_isName prog_10_method_12_code 2 (some .boolean)) B
  have hl := lv_entry ([.int x, .int y]) (n := 2) (Nat.le_of_ble_eq_true rfl)
  rw [lg_entry_eq]
  generalize (lg_sl ([.int x, .int y]) ++ List.replicate (2 - (lg_sl ([.int x, .int y])).length) Slot.unset).toArray = ls at hl ⊢
  have hl : lv_has ls 2 [(0, .int x), (1, .int y)] := hl
  rw [hH]
  refine lv_iload_n hx hb d_Mo_isName_0 rfl (lv_at hl 0 rfl) ?_
  refine lv_if_lt (tgt := 18) hx hb d_Mo_isName_1 (by decide) (fun c1 => ?_) (fun c1 => ?_)
  · refine lv_iconst (v := 0) hx hb d_Mo_isName_18 (by decide) ?_
    exact x_zret hx hb hr hlocks (by rw [g_okv, if_pos c1]) (by decide) rfl (fun q hq => by cases hq) (Nat.le_refl _) (Nat.le_refl _) d_Mo_isName_19
  · refine lv_iload_n hx hb d_Mo_isName_4 rfl (lv_at hl 0 rfl) ?_
    refine lv_bipush (v := 7) hx hb d_Mo_isName_5 (by decide) ?_
    refine lv_icmp_ge (tgt := 18) hx hb d_Mo_isName_7 (by decide) (fun c2 => ?_) (fun c2 => ?_)
    · refine lv_iconst (v := 0) hx hb d_Mo_isName_18 (by decide) ?_
      exact x_zret hx hb hr hlocks (by rw [g_okv, if_neg c1, if_pos c2]) (by decide) rfl (fun q hq => by cases hq) (Nat.le_refl _) (Nat.le_refl _) d_Mo_isName_19
    · refine lv_iload_n hx hb d_Mo_isName_10 rfl (lv_at hl 1 rfl) ?_
      refine lv_if_lt (tgt := 18) hx hb d_Mo_isName_11 (by decide) (fun c3 => ?_) (fun c3 => ?_)
      · refine lv_iconst (v := 0) hx hb d_Mo_isName_18 (by decide) ?_
        exact x_zret hx hb hr hlocks (by rw [g_okv, if_neg c1, if_neg c2, if_pos c3]) (by decide) rfl (fun q hq => by cases hq) (Nat.le_refl _) (Nat.le_refl _) d_Mo_isName_19
      · refine lv_iconst (v := 1) hx hb d_Mo_isName_14 (by decide) ?_
        refine lv_goto (tgt := 19) hx hb d_Mo_isName_15 (by decide) ?_
        exact x_zret hx hb hr hlocks (by rw [g_okv, if_neg c1, if_neg c2, if_neg c3]) (by decide) rfl (fun q hq => by cases hq) (Nat.le_refl _) (Nat.le_refl _) d_Mo_isName_19
set_option maxHeartbeats 4000000 in
set_option maxRecDepth 100000 in
theorem c_Mo_entry (l : Launch) {D : va_G} {A : Nat → ClassId} {H0 : Heap} {b : Nat} {v0 v1 v2 v3 v4 v6 v7 : Int32} {G : m_G} {d : Nat} (ho : m_O D b v0 v1 v2 v3 v4 (nI d) v6 v7 H0) (hR : m_R D A b G H0) (hd : d < 200) : Met l y_Mo_entry w_Mo_entry { frames := 0, cells := 0, slots := 0, locals := 0 } (x_Pc D A [.ref b] H0) (x_Q (some (.int (nI (120 + d)))) (fun H1 => H1 = H0)) 0 0 (fun _ => False) := by
  refine Met.ofW (cc := prog_10_method_13_code) (maxL := 1) (ret := (some .int)) (by decide) rfl ?_
  intro p e s m args below meth c s₁ B hml hv
  obtain ⟨rfl, hH, hK, hN⟩ := hv
  obtain ⟨hx, hb, hr, htb, hown, hlocks⟩ := x_start (wd := Cond.code y_Mo_entry prog_10_method_13_code 1 (some .int)) B
  have hl := lv_entry ([.ref b]) (n := 1) (Nat.le_of_ble_eq_true rfl)
  rw [lg_entry_eq]
  generalize (lg_sl ([.ref b]) ++ List.replicate (1 - (lg_sl ([.ref b])).length) Slot.unset).toArray = ls at hl ⊢
  have hl : lv_has ls 1 [(0, .ref b)] := hl
  rw [hH]
  refine lv_bipush (v := 120) hx hb d_Mo_entry_0 (by decide) ?_
  refine lv_aload_n hx hb d_Mo_entry_2 rfl (lv_at hl 0 rfl) ?_
  refine x_get (ci := 8) (T := T_Mo) hx hb htb u_Mo hown hK ho rfl 13 (by decide) (htb _ mw_476) (fun _ h9 => h9) (v := .int (nI d)) rfl d_Mo_entry_3 ?_
  refine lv_sipush (v := 200) hx hb d_Mo_entry_6 (by decide) ?_
  refine lv_icmp_ge (tgt := 19) hx hb d_Mo_entry_9 (by decide) (fun c9 => absurd c9 (nI_ge (a := d) (b := 200) hd (by decide))) (fun _ => ?_)
  refine lv_aload_n hx hb d_Mo_entry_12 rfl (lv_at hl 0 rfl) ?_
  refine x_get (ci := 8) (T := T_Mo) hx hb htb u_Mo hown hK ho rfl 13 (by decide) (htb _ mw_476) (fun _ h9 => h9) (v := .int (nI d)) rfl d_Mo_entry_13 ?_
  refine lv_goto (tgt := 22) hx hb d_Mo_entry_16 (by decide) ?_
  refine lv_iadd hx hb d_Mo_entry_22 ?_
  exact x_iret hx hb hr hlocks (nI_add 120 d) rfl (fun q hq => by cases hq) (Nat.le_refl _) (Nat.le_refl _) d_Mo_entry_23
