set_option maxHeartbeats 4000000 in
set_option maxRecDepth 100000 in
theorem c_Mo_copy (l : Launch) {D : va_G} {A : Nat → ClassId} {H0 : Heap} {b : Nat} {v0 v1 v2 v3 v4 v5 v6 v7 : Int32} {G : m_G} (ho : m_O D b v0 v1 v2 v3 v4 v5 v6 v7 H0) (hR : m_R D A b G H0) {i j : Nat} {f : g_F} (hi : i < 320) (hj : j < 320) (hne : i ≠ j) (hf : m_e G i f) : Met l y_Mo_copy w_Mo_copy { frames := 0, cells := 0, slots := 0, locals := 0 } (x_Pc D A [.ref b, .int (nI i), .int (nI j)] H0) (x_Q none (fun H1 => ∃ G1 : m_G, m_O D b v0 v1 v2 v3 v4 v5 v6 v7 H1 ∧ m_R D A b G1 H1 ∧ m_K b H0 H1 ∧ m_e G1 j f ∧ m_fr j G G1)) 0 0 (m_fq b) := by
  refine Met.ofW (cc := prog_10_method_5_code) (maxL := 4) (ret := none) (by decide) rfl ?_
  intro p e s m args below meth c s₁ B hml hv
  obtain ⟨rfl, hH, hK, hN⟩ := hv
  obtain ⟨hx, hb, hr, htb, hown, hlocks⟩ := x_start (wd := Cond.code y_Mo_copy prog_10_method_5_code 4 none) B
  have hl := lv_entry ([.ref b, .int (nI i), .int (nI j)]) (n := 4) (Nat.le_of_ble_eq_true rfl)
  rw [lg_entry_eq]
  generalize (lg_sl ([.ref b, .int (nI i), .int (nI j)]) ++ List.replicate (4 - (lg_sl ([.ref b, .int (nI i), .int (nI j)])).length) Slot.unset).toArray = ls at hl ⊢
  have hl : lv_has ls 4 [(0, .ref b), (1, .int (nI i)), (2, .int (nI j))] := hl
  rw [hH]
  have hM : m_K b H0 H0 := m_K.refl
  have hL : ∀ q ∈ ([] : List Loc), m_fq b q.base := fun q hq => by cases hq
  obtain ⟨⟨f1, f2⟩, ⟨f3, f4, f5, f6⟩, f7, f8, f9, f10⟩ := id hf
  refine lv_aload_n hx hb d_Mo_copy_0 rfl (lv_at hl 0 rfl) ?_
  refine x_get (ci := 8) (T := T_Mo) hx hb htb u_Mo hown hK ho rfl 5 (by decide) (htb _ mw_468) (fun _ h9 => h9) (v := .ref (b + 3)) rfl d_Mo_copy_1 ?_
  refine lv_iload_n hx hb d_Mo_copy_4 rfl (lv_at hl 2 rfl) ?_
  refine lv_aload_n hx hb d_Mo_copy_5 rfl (lv_at hl 0 rfl) ?_
  refine x_get (ci := 8) (T := T_Mo) hx hb htb u_Mo hown hK ho rfl 5 (by decide) (htb _ mw_468) (fun _ h9 => h9) (v := .ref (b + 3)) rfl d_Mo_copy_6 ?_
  refine lv_iload_n hx hb d_Mo_copy_9 rfl (lv_at hl 1 rfl) ?_
  refine m_ild hx hb hK hR 3 (by decide) (by decide) rfl (i := i) (show _ < 320 by omega) d_Mo_copy_10 ?_
  refine x_top (y := f.1.1) (by exact f1) ?_
  refine m_ist hx hb hK ho hM hL hR 3 (by decide) (by decide) rfl (i := j) (show _ < 320 by omega) d_Mo_copy_11 (fun Ha0 locs ho hM hL hR => ?_)
  obtain ⟨G1, eG1⟩ : ∃ Gq : m_G, Gq = m_up G 3 (upd (G 3) j f.1.1) := ⟨_, rfl⟩
  rw [← eG1] at hR
  have uG1 : ∀ j, j ≠ 3 → G1 j = G j := fun j h => by rw [eG1]; exact m_up_ne _ _ h
  have sG1 : G1 3 = upd (G 3) j f.1.1 := by rw [eG1]; exact m_up_self _ _ _
  refine lv_aload_n hx hb d_Mo_copy_12 rfl (lv_at hl 0 rfl) ?_
  refine x_get (ci := 8) (T := T_Mo) hx hb htb u_Mo hown hK ho rfl 6 (by decide) (htb _ mw_469) (fun _ h9 => h9) (v := .ref (b + 4)) rfl d_Mo_copy_13 ?_
  refine lv_iload_n hx hb d_Mo_copy_16 rfl (lv_at hl 2 rfl) ?_
  refine lv_aload_n hx hb d_Mo_copy_17 rfl (lv_at hl 0 rfl) ?_
  refine x_get (ci := 8) (T := T_Mo) hx hb htb u_Mo hown hK ho rfl 6 (by decide) (htb _ mw_469) (fun _ h9 => h9) (v := .ref (b + 4)) rfl d_Mo_copy_18 ?_
  refine lv_iload_n hx hb d_Mo_copy_21 rfl (lv_at hl 1 rfl) ?_
  refine m_ild hx hb hK hR 4 (by decide) (by decide) rfl (i := i) (show _ < 320 by omega) d_Mo_copy_22 ?_
  refine x_top (y := f.1.2.1) (by rw [eG1, m_up_ne _ _ (by decide)]; exact f2) ?_
  refine m_ist hx hb hK ho hM hL hR 4 (by decide) (by decide) rfl (i := j) (show _ < 320 by omega) d_Mo_copy_23 (fun Ha1 locs ho hM hL hR => ?_)
  obtain ⟨G2, eG2⟩ : ∃ Gq : m_G, Gq = m_up G1 4 (upd (G1 4) j f.1.2.1) := ⟨_, rfl⟩
  rw [← eG2] at hR
  have uG2 : ∀ j, j ≠ 4 → G2 j = G1 j := fun j h => by rw [eG2]; exact m_up_ne _ _ h
  have sG2 : G2 4 = upd (G1 4) j f.1.2.1 := by rw [eG2]; exact m_up_self _ _ _
  refine lv_aload_n hx hb d_Mo_copy_24 rfl (lv_at hl 0 rfl) ?_
  refine x_get (ci := 8) (T := T_Mo) hx hb htb u_Mo hown hK ho rfl 7 (by decide) (htb _ mw_470) (fun _ h9 => h9) (v := .ref (b + 5)) rfl d_Mo_copy_25 ?_
  refine lv_iload_n hx hb d_Mo_copy_28 rfl (lv_at hl 2 rfl) ?_
  refine lv_aload_n hx hb d_Mo_copy_29 rfl (lv_at hl 0 rfl) ?_
  refine x_get (ci := 8) (T := T_Mo) hx hb htb u_Mo hown hK ho rfl 7 (by decide) (htb _ mw_470) (fun _ h9 => h9) (v := .ref (b + 5)) rfl d_Mo_copy_30 ?_
  refine lv_iload_n hx hb d_Mo_copy_33 rfl (lv_at hl 1 rfl) ?_
  refine m_ild hx hb hK hR 5 (by decide) (by decide) rfl (i := i) (show _ < 320 by omega) d_Mo_copy_34 ?_
  refine x_top (y := nI f.1.2.2.length) (by rw [eG2, m_up_ne _ _ (by decide), eG1, m_up_ne _ _ (by decide)]; exact f3) ?_
  refine m_ist hx hb hK ho hM hL hR 5 (by decide) (by decide) rfl (i := j) (show _ < 320 by omega) d_Mo_copy_35 (fun Ha2 locs ho hM hL hR => ?_)
  obtain ⟨G3, eG3⟩ : ∃ Gq : m_G, Gq = m_up G2 5 (upd (G2 5) j (nI f.1.2.2.length)) := ⟨_, rfl⟩
  rw [← eG3] at hR
  have uG3 : ∀ j, j ≠ 5 → G3 j = G2 j := fun j h => by rw [eG3]; exact m_up_ne _ _ h
  have sG3 : G3 5 = upd (G2 5) j (nI f.1.2.2.length) := by rw [eG3]; exact m_up_self _ _ _
  refine lv_aload_n hx hb d_Mo_copy_36 rfl (lv_at hl 0 rfl) ?_
  refine x_get (ci := 8) (T := T_Mo) hx hb htb u_Mo hown hK ho rfl 8 (by decide) (htb _ mw_471) (fun _ h9 => h9) (v := .ref (b + 6)) rfl d_Mo_copy_37 ?_
  refine lv_iload_n hx hb d_Mo_copy_40 rfl (lv_at hl 2 rfl) ?_
  refine lv_aload_n hx hb d_Mo_copy_41 rfl (lv_at hl 0 rfl) ?_
  refine x_get (ci := 8) (T := T_Mo) hx hb htb u_Mo hown hK ho rfl 8 (by decide) (htb _ mw_471) (fun _ h9 => h9) (v := .ref (b + 6)) rfl d_Mo_copy_42 ?_
  refine lv_iload_n hx hb d_Mo_copy_45 rfl (lv_at hl 1 rfl) ?_
  refine m_ild hx hb hK hR 6 (by decide) (by decide) rfl (i := i) (show _ < 320 by omega) d_Mo_copy_46 ?_
  refine x_top (y := nI f.2.length) (by rw [eG3, m_up_ne _ _ (by decide), eG2, m_up_ne _ _ (by decide), eG1, m_up_ne _ _ (by decide)]; exact f7) ?_
  refine m_ist hx hb hK ho hM hL hR 6 (by decide) (by decide) rfl (i := j) (show _ < 320 by omega) d_Mo_copy_47 (fun Ha3 locs ho hM hL hR => ?_)
  obtain ⟨G4, eG4⟩ : ∃ Gq : m_G, Gq = m_up G3 6 (upd (G3 6) j (nI f.2.length)) := ⟨_, rfl⟩
  rw [← eG4] at hR
  have uG4 : ∀ j, j ≠ 6 → G4 j = G3 j := fun j h => by rw [eG4]; exact m_up_ne _ _ h
  have sG4 : G4 6 = upd (G3 6) j (nI f.2.length) := by rw [eG4]; exact m_up_self _ _ _
  have hfr : m_fr j G G4 := by
    rw [eG4]
    refine m_fr.trans ?_ (m_fr.set (by decide) (by decide))
    rw [eG3]
    refine m_fr.trans ?_ (m_fr.set (by decide) (by decide))
    rw [eG2]
    refine m_fr.trans ?_ (m_fr.set (by decide) (by decide))
    rw [eG1]
    exact m_fr.set (by decide) (by decide)
  have hj4 : (G4 3 j = f.1.1 ∧ G4 4 j = f.1.2.1) ∧ G4 5 j = nI f.1.2.2.length ∧ G4 6 j = nI f.2.length := by
    refine ⟨⟨?_, ?_⟩, ?_, ?_⟩
    · rw [eG4, m_up_ne _ _ (by decide), eG3, m_up_ne _ _ (by decide), eG2, m_up_ne _ _ (by decide), eG1, m_up_self, pk_us]
    · rw [eG4, m_up_ne _ _ (by decide), eG3, m_up_ne _ _ (by decide), eG2, m_up_self, pk_us]
    · rw [eG4, m_up_ne _ _ (by decide), eG3, m_up_self, pk_us]
    · rw [eG4, m_up_self, pk_us]
  clear uG1 sG1 uG2 sG2 uG3 sG3 uG4 sG4 eG1 eG2 eG3 eG4
  refine lv_iconst (v := 0) hx hb d_Mo_copy_48 (by decide) ?_
  refine lv_istore_n (lv' := [(3, .int 0), (0, .ref b), (1, .int (nI i)), (2, .int (nI j))]) hx hb d_Mo_copy_49 rfl hl (by decide) rfl (fun ls hl => ?_)
  refine x_loop (σ := Nat × m_G × Heap × List Loc × Array Slot) (fun z => F0 m 50 z.2.2.2.2 []) (fun z => z.2.2.1) (fun z => z.2.2.2.1) (fun z => z.1 ≤ f.1.2.2.length ∧ m_O D b v0 v1 v2 v3 v4 v5 v6 v7 z.2.2.1 ∧ m_R D A b z.2.1 z.2.2.1 ∧ m_K b H0 z.2.2.1 ∧ (∀ q ∈ z.2.2.2.1, m_fq b q.base) ∧ m_fr j G z.2.1 ∧ ((z.2.1 3 j = f.1.1 ∧ z.2.1 4 j = f.1.2.1) ∧ z.2.1 5 j = nI f.1.2.2.length ∧ z.2.1 6 j = nI f.2.length) ∧ (∀ q, q < z.1 → z.2.1 7 (100 * j + q) = sb_b (f.1.2.2.getD q 0)) ∧ lv_has z.2.2.2.2 4 [(3, .int (nI z.1)), (0, .ref b), (1, .int (nI i)), (2, .int (nI j))]) (fun z => f.1.2.2.length - z.1) (s0 := (0, G4, Ha3, _, ls)) ⟨Nat.zero_le _, ho, hR, hM, hL, hfr, hj4, (fun q hq => absurd hq (Nat.not_lt_zero q)), (lv_sub hl [0, 1, 2, 3] rfl)⟩ ?_
  clear hR ho hM hL hl
  rintro ⟨k, G5, H, locs, ls⟩ ⟨hk, ho, hR, hM, hL, hfr, hjj, hp, hl⟩ ih
  dsimp only at hk ho hR hM hL hfr hjj hp hl ih ⊢
  obtain ⟨⟨f1, f2⟩, ⟨f3, f4, f5, f6⟩, f7, f8, f9, f10⟩ := hfr.e hne hf
  refine lv_iload_n hx hb d_Mo_copy_50 rfl (lv_at hl 0 rfl) ?_
  refine lv_aload_n hx hb d_Mo_copy_51 rfl (lv_at hl 1 rfl) ?_
  refine x_get (ci := 8) (T := T_Mo) hx hb htb u_Mo hown hK ho rfl 7 (by decide) (htb _ mw_470) (fun _ h9 => h9) (v := .ref (b + 5)) rfl d_Mo_copy_52 ?_
  refine lv_iload_n hx hb d_Mo_copy_55 rfl (lv_at hl 2 rfl) ?_
  refine m_ild hx hb hK hR 5 (by decide) (by decide) rfl (i := i) (show _ < 320 by omega) d_Mo_copy_56 ?_
  refine x_top (y := nI f.1.2.2.length) (f3) ?_
  refine lv_icmp_ge (tgt := 88) hx hb d_Mo_copy_57 (by decide) (fun c1 => ?_) (fun c1 => ?_)
  · have e1 : k = f.1.2.2.length := Nat.le_antisymm hk (Nat.le_of_not_lt fun q => absurd c1 (nI_ge q (by omega)))
    subst e1
    clear ih
    refine lv_iconst (v := 0) hx hb d_Mo_copy_88 (by decide) ?_
    refine lv_istore_n (lv' := [(3, .int 0), (0, .ref b), (1, .int (nI i)), (2, .int (nI j))]) hx hb d_Mo_copy_89 rfl hl (by decide) rfl (fun ls hl => ?_)
    refine x_loop (σ := Nat × m_G × Heap × List Loc × Array Slot) (fun z => F0 m 90 z.2.2.2.2 []) (fun z => z.2.2.1) (fun z => z.2.2.2.1) (fun z => z.1 ≤ f.2.length ∧ m_O D b v0 v1 v2 v3 v4 v5 v6 v7 z.2.2.1 ∧ m_R D A b z.2.1 z.2.2.1 ∧ m_K b H0 z.2.2.1 ∧ (∀ q ∈ z.2.2.2.1, m_fq b q.base) ∧ m_fr j G z.2.1 ∧ ((z.2.1 3 j = f.1.1 ∧ z.2.1 4 j = f.1.2.1) ∧ z.2.1 5 j = nI f.1.2.2.length ∧ z.2.1 6 j = nI f.2.length) ∧ (∀ q, q < f.1.2.2.length → z.2.1 7 (100 * j + q) = sb_b (f.1.2.2.getD q 0)) ∧ (∀ q, q < z.1 → z.2.1 8 (400 * j + q) = sb_b (f.2.getD q 0)) ∧ lv_has z.2.2.2.2 4 [(3, .int (nI z.1)), (0, .ref b), (1, .int (nI i)), (2, .int (nI j))]) (fun z => f.2.length - z.1) (s0 := (0, G5, H, _, ls)) ⟨Nat.zero_le _, ho, hR, hM, hL, hfr, hjj, hp, (fun q hq => absurd hq (Nat.not_lt_zero q)), (lv_sub hl [0, 1, 2, 3] rfl)⟩ ?_
    clear hR ho hM hL hl
    rintro ⟨k, G6, H, locs, ls⟩ ⟨hk, ho, hR, hM, hL, hfr, hjj, hp, hq8, hl⟩ ih
    dsimp only at hk ho hR hM hL hfr hjj hp hq8 hl ih ⊢
    obtain ⟨⟨f1, f2⟩, ⟨f3, f4, f5, f6⟩, f7, f8, f9, f10⟩ := hfr.e hne hf
    refine lv_iload_n hx hb d_Mo_copy_90 rfl (lv_at hl 0 rfl) ?_
    refine lv_aload_n hx hb d_Mo_copy_91 rfl (lv_at hl 1 rfl) ?_
    refine x_get (ci := 8) (T := T_Mo) hx hb htb u_Mo hown hK ho rfl 8 (by decide) (htb _ mw_471) (fun _ h9 => h9) (v := .ref (b + 6)) rfl d_Mo_copy_92 ?_
    refine lv_iload_n hx hb d_Mo_copy_95 rfl (lv_at hl 2 rfl) ?_
    refine m_ild hx hb hK hR 6 (by decide) (by decide) rfl (i := i) (show _ < 320 by omega) d_Mo_copy_96 ?_
    refine x_top (y := nI f.2.length) (f7) ?_
    refine lv_icmp_ge (tgt := 130) hx hb d_Mo_copy_97 (by decide) (fun c2 => ?_) (fun c2 => ?_)
    · have e1 : k = f.2.length := Nat.le_antisymm hk (Nat.le_of_not_lt fun q => absurd c2 (nI_ge q (by omega)))
      subst e1
      exact x_vret hx hb hr hlocks ⟨G6, ho, hR, hM, ⟨hjj.1, ⟨hjj.2.1, f4, hp, f6⟩, hjj.2.2, f8, hq8, f10⟩, hfr⟩ hL (Nat.le_refl _) (Nat.le_refl _) d_Mo_copy_130
    · have hlt : k < f.2.length := Nat.lt_of_not_le fun q => absurd (nI_le q (by omega)) c2
      refine lv_aload_n hx hb d_Mo_copy_100 rfl (lv_at hl 1 rfl) ?_
      refine x_get (ci := 8) (T := T_Mo) hx hb htb u_Mo hown hK ho rfl 10 (by decide) (htb _ mw_473) (fun _ h9 => h9) (v := .ref (b + 8)) rfl d_Mo_copy_101 ?_
      refine lv_sipush (v := 400) hx hb d_Mo_copy_104 (by decide) ?_
      refine lv_iload_n hx hb d_Mo_copy_107 rfl (lv_at hl 3 rfl) ?_
      refine lv_imul hx hb d_Mo_copy_108 ?_
      refine lv_iload_n hx hb d_Mo_copy_109 rfl (lv_at hl 0 rfl) ?_
      refine lv_iadd hx hb d_Mo_copy_110 ?_
      refine x_top (y := nI (400 * j + k)) (by rw [show (400 : Int32) = nI 400 from rfl, pk_mul, nI_add]) ?_
      refine lv_aload_n hx hb d_Mo_copy_111 rfl (lv_at hl 1 rfl) ?_
      refine x_get (ci := 8) (T := T_Mo) hx hb htb u_Mo hown hK ho rfl 10 (by decide) (htb _ mw_473) (fun _ h9 => h9) (v := .ref (b + 8)) rfl d_Mo_copy_112 ?_
      refine lv_sipush (v := 400) hx hb d_Mo_copy_115 (by decide) ?_
      refine lv_iload_n hx hb d_Mo_copy_118 rfl (lv_at hl 2 rfl) ?_
      refine lv_imul hx hb d_Mo_copy_119 ?_
      refine lv_iload_n hx hb d_Mo_copy_120 rfl (lv_at hl 0 rfl) ?_
      refine lv_iadd hx hb d_Mo_copy_121 ?_
      refine x_top (y := nI (400 * i + k)) (by rw [show (400 : Int32) = nI 400 from rfl, pk_mul, nI_add]) ?_
      refine m_bld hx hb hK hR 8 (by decide) (by decide) rfl (i := 400 * i + k) (show _ < 128000 by omega) d_Mo_copy_122 ?_
      refine x_top (y := sb_b (f.2.getD k 0)) (f9 k hlt) ?_
      refine m_bst hx hb hK ho hM hL hR 8 (by decide) (by decide) rfl (i := 400 * j + k) (show _ < 128000 by omega) (m_nar _) d_Mo_copy_123 (fun H7 locs ho hM hL hR => ?_)
      obtain ⟨G7, eG7⟩ : ∃ Gq : m_G, Gq = m_up G6 8 (upd (G6 8) (400 * j + k) (sb_b (f.2.getD k 0))) := ⟨_, rfl⟩
      rw [← eG7] at hR
      have uG7 : ∀ j, j ≠ 8 → G7 j = G6 j := fun j h => by rw [eG7]; exact m_up_ne _ _ h
      have sG7 : G7 8 = upd (G6 8) (400 * j + k) (sb_b (f.2.getD k 0)) := by rw [eG7]; exact m_up_self _ _ _
      have hfr7 : m_fr j G6 G7 := by rw [eG7]; exact m_fr.c (by omega)
      refine lv_iinc (v := nI (k + 1)) (lv' := [(3, .int (nI (k + 1))), (0, .ref b), (1, .int (nI i)), (2, .int (nI j))]) hx hb d_Mo_copy_124 hl (k := 0) rfl (nI_1 k) (by decide) rfl (fun ls hl => ?_)
      refine lv_goto (tgt := 90) hx hb d_Mo_copy_127 (by decide) ?_
      refine ih (k + 1, G7, H7, locs, ls) ⟨hlt, ho, hR, hM, hL, hfr.trans hfr7, ⟨⟨(congrFun (uG7 _ (by decide)) _).trans hjj.1.1, (congrFun (uG7 _ (by decide)) _).trans hjj.1.2⟩, (congrFun (uG7 _ (by decide)) _).trans hjj.2.1, (congrFun (uG7 _ (by decide)) _).trans hjj.2.2⟩, (fun q hq => (congrFun (uG7 _ (by decide)) _).trans (hp q hq)), fun q hq => ?_, (lv_sub hl [0, 1, 2, 3] rfl)⟩ (by show f.2.length - (k + 1) < f.2.length - k; omega)
      have hq : q < k + 1 := hq
      show G7 8 (400 * j + q) = _
      rw [eG7, m_up_self]
      rcases Nat.eq_or_lt_of_le (Nat.le_of_lt_succ hq) with e | e
      · subst e; rw [pk_us]
      · rw [pk_un (by omega)]; exact hq8 q e
  · have hlt : k < f.1.2.2.length := Nat.lt_of_not_le fun q => absurd (nI_le q (by omega)) c1
    refine lv_aload_n hx hb d_Mo_copy_60 rfl (lv_at hl 1 rfl) ?_
    refine x_get (ci := 8) (T := T_Mo) hx hb htb u_Mo hown hK ho rfl 9 (by decide) (htb _ mw_472) (fun _ h9 => h9) (v := .ref (b + 7)) rfl d_Mo_copy_61 ?_
    refine lv_bipush (v := 100) hx hb d_Mo_copy_64 (by decide) ?_
    refine lv_iload_n hx hb d_Mo_copy_66 rfl (lv_at hl 3 rfl) ?_
    refine lv_imul hx hb d_Mo_copy_67 ?_
    refine lv_iload_n hx hb d_Mo_copy_68 rfl (lv_at hl 0 rfl) ?_
    refine lv_iadd hx hb d_Mo_copy_69 ?_
    refine x_top (y := nI (100 * j + k)) (by rw [show (100 : Int32) = nI 100 from rfl, pk_mul, nI_add]) ?_
    refine lv_aload_n hx hb d_Mo_copy_70 rfl (lv_at hl 1 rfl) ?_
    refine x_get (ci := 8) (T := T_Mo) hx hb htb u_Mo hown hK ho rfl 9 (by decide) (htb _ mw_472) (fun _ h9 => h9) (v := .ref (b + 7)) rfl d_Mo_copy_71 ?_
    refine lv_bipush (v := 100) hx hb d_Mo_copy_74 (by decide) ?_
    refine lv_iload_n hx hb d_Mo_copy_76 rfl (lv_at hl 2 rfl) ?_
    refine lv_imul hx hb d_Mo_copy_77 ?_
    refine lv_iload_n hx hb d_Mo_copy_78 rfl (lv_at hl 0 rfl) ?_
    refine lv_iadd hx hb d_Mo_copy_79 ?_
    refine x_top (y := nI (100 * i + k)) (by rw [show (100 : Int32) = nI 100 from rfl, pk_mul, nI_add]) ?_
    refine m_bld hx hb hK hR 7 (by decide) (by decide) rfl (i := 100 * i + k) (show _ < 32000 by omega) d_Mo_copy_80 ?_
    refine x_top (y := sb_b (f.1.2.2.getD k 0)) (f5 k hlt) ?_
    refine m_bst hx hb hK ho hM hL hR 7 (by decide) (by decide) rfl (i := 100 * j + k) (show _ < 32000 by omega) (m_nar _) d_Mo_copy_81 (fun H7 locs ho hM hL hR => ?_)
    obtain ⟨G7, eG7⟩ : ∃ Gq : m_G, Gq = m_up G5 7 (upd (G5 7) (100 * j + k) (sb_b (f.1.2.2.getD k 0))) := ⟨_, rfl⟩
    rw [← eG7] at hR
    have uG7 : ∀ j, j ≠ 7 → G7 j = G5 j := fun j h => by rw [eG7]; exact m_up_ne _ _ h
    have sG7 : G7 7 = upd (G5 7) (100 * j + k) (sb_b (f.1.2.2.getD k 0)) := by rw [eG7]; exact m_up_self _ _ _
    have hfr7 : m_fr j G5 G7 := by rw [eG7]; exact m_fr.p (by omega)
    refine lv_iinc (v := nI (k + 1)) (lv' := [(3, .int (nI (k + 1))), (0, .ref b), (1, .int (nI i)), (2, .int (nI j))]) hx hb d_Mo_copy_82 hl (k := 0) rfl (nI_1 k) (by decide) rfl (fun ls hl => ?_)
    refine lv_goto (tgt := 50) hx hb d_Mo_copy_85 (by decide) ?_
    refine ih (k + 1, G7, H7, locs, ls) ⟨hlt, ho, hR, hM, hL, hfr.trans hfr7, ⟨⟨(congrFun (uG7 _ (by decide)) _).trans hjj.1.1, (congrFun (uG7 _ (by decide)) _).trans hjj.1.2⟩, (congrFun (uG7 _ (by decide)) _).trans hjj.2.1, (congrFun (uG7 _ (by decide)) _).trans hjj.2.2⟩, fun q hq => ?_, (lv_sub hl [0, 1, 2, 3] rfl)⟩ (by show f.1.2.2.length - (k + 1) < f.1.2.2.length - k; omega)
    have hq : q < k + 1 := hq
    show G7 7 (100 * j + q) = _
    rw [eG7, m_up_self]
    rcases Nat.eq_or_lt_of_le (Nat.le_of_lt_succ hq) with e | e
    · subst e; rw [pk_us]
    · rw [pk_un (by omega)]; exact hp q e
set_option maxHeartbeats 4000000 in
set_option maxRecDepth 100000 in
theorem c_Mo_name (l : Launch) {D : va_G} {A : Nat → ClassId} {H0 : Heap} {b : Nat} {v0 v1 v3 v4 v5 v6 v7 : Int32} {G : m_G} {ps : List Nat} (ho : m_O D b v0 v1 (nI ps.length) v3 v4 v5 v6 v7 H0) (hR : m_R D A b G H0) {j : Nat} (x y : Int32) (hj : j < 320) (hp1 : ps.length ≤ 100) (hp2 : ∀ k, k < ps.length → G 2 k = sb_b (ps.getD k 0)) (hp3 : ∀ u ∈ ps, u < 256) : Met l y_Mo_name w_Mo_name { frames := 0, cells := 0, slots := 0, locals := 0 } (x_Pc D A [.ref b, .int (nI j), .int x, .int y] H0) (x_Q none (fun H1 => ∃ G1 : m_G, m_O D b v0 v1 (nI ps.length) v3 v4 v5 v6 v7 H1 ∧ m_R D A b G1 H1 ∧ m_K b H0 H1 ∧ m_e G1 j ((x, y, ps), []) ∧ m_fr j G G1)) 0 0 (m_fq b) := by
  refine Met.ofW (cc := prog_10_method_6_code) (maxL := 5) (ret := none) (by decide) rfl ?_
  intro p e s m args below meth c s₁ B hml hv
  obtain ⟨rfl, hH, hK, hN⟩ := hv
  obtain ⟨hx, hb, hr, htb, hown, hlocks⟩ := x_start (wd := Cond.code y_Mo_name prog_10_method_6_code 5 none) B
  have hl := lv_entry ([.ref b, .int (nI j), .int x, .int y]) (n := 5) (Nat.le_of_ble_eq_true rfl)
  rw [lg_entry_eq]
  generalize (lg_sl ([.ref b, .int (nI j), .int x, .int y]) ++ List.replicate (5 - (lg_sl ([.ref b, .int (nI j), .int x, .int y])).length) Slot.unset).toArray = ls at hl ⊢
  have hl : lv_has ls 5 [(0, .ref b), (1, .int (nI j)), (2, .int x), (3, .int y)] := hl
  rw [hH]
  have hM : m_K b H0 H0 := m_K.refl
  have hL : ∀ q ∈ ([] : List Loc), m_fq b q.base := fun q hq => by cases hq
  refine lv_aload_n hx hb d_Mo_name_0 rfl (lv_at hl 0 rfl) ?_
  refine x_get (ci := 8) (T := T_Mo) hx hb htb u_Mo hown hK ho rfl 5 (by decide) (htb _ mw_468) (fun _ h9 => h9) (v := .ref (b + 3)) rfl d_Mo_name_1 ?_
  refine lv_iload_n hx hb d_Mo_name_4 rfl (lv_at hl 1 rfl) ?_
  refine lv_iload_n hx hb d_Mo_name_5 rfl (lv_at hl 2 rfl) ?_
  refine m_ist hx hb hK ho hM hL hR 3 (by decide) (by decide) rfl (i := j) (show _ < 320 by omega) d_Mo_name_6 (fun Ha0 locs ho hM hL hR => ?_)
  obtain ⟨G1, eG1⟩ : ∃ Gq : m_G, Gq = m_up G 3 (upd (G 3) j x) := ⟨_, rfl⟩
  rw [← eG1] at hR
  have uG1 : ∀ j, j ≠ 3 → G1 j = G j := fun j h => by rw [eG1]; exact m_up_ne _ _ h
  have sG1 : G1 3 = upd (G 3) j x := by rw [eG1]; exact m_up_self _ _ _
  refine lv_aload_n hx hb d_Mo_name_7 rfl (lv_at hl 0 rfl) ?_
  refine x_get (ci := 8) (T := T_Mo) hx hb htb u_Mo hown hK ho rfl 6 (by decide) (htb _ mw_469) (fun _ h9 => h9) (v := .ref (b + 4)) rfl d_Mo_name_8 ?_
  refine lv_iload_n hx hb d_Mo_name_11 rfl (lv_at hl 1 rfl) ?_
  refine lv_iload_n hx hb d_Mo_name_12 rfl (lv_at hl 3 rfl) ?_
  refine m_ist hx hb hK ho hM hL hR 4 (by decide) (by decide) rfl (i := j) (show _ < 320 by omega) d_Mo_name_13 (fun Ha1 locs ho hM hL hR => ?_)
  obtain ⟨G2, eG2⟩ : ∃ Gq : m_G, Gq = m_up G1 4 (upd (G1 4) j y) := ⟨_, rfl⟩
  rw [← eG2] at hR
  have uG2 : ∀ j, j ≠ 4 → G2 j = G1 j := fun j h => by rw [eG2]; exact m_up_ne _ _ h
  have sG2 : G2 4 = upd (G1 4) j y := by rw [eG2]; exact m_up_self _ _ _
  refine lv_aload_n hx hb d_Mo_name_14 rfl (lv_at hl 0 rfl) ?_
  refine x_get (ci := 8) (T := T_Mo) hx hb htb u_Mo hown hK ho rfl 7 (by decide) (htb _ mw_470) (fun _ h9 => h9) (v := .ref (b + 5)) rfl d_Mo_name_15 ?_
  refine lv_iload_n hx hb d_Mo_name_18 rfl (lv_at hl 1 rfl) ?_
  refine lv_aload_n hx hb d_Mo_name_19 rfl (lv_at hl 0 rfl) ?_
  refine x_get (ci := 8) (T := T_Mo) hx hb htb u_Mo hown hK ho rfl 4 (by decide) (htb _ mw_467) (fun _ h9 => h9) (v := .int (nI ps.length)) rfl d_Mo_name_20 ?_
  refine m_ist hx hb hK ho hM hL hR 5 (by decide) (by decide) rfl (i := j) (show _ < 320 by omega) d_Mo_name_23 (fun Ha2 locs ho hM hL hR => ?_)
  obtain ⟨G3, eG3⟩ : ∃ Gq : m_G, Gq = m_up G2 5 (upd (G2 5) j (nI ps.length)) := ⟨_, rfl⟩
  rw [← eG3] at hR
  have uG3 : ∀ j, j ≠ 5 → G3 j = G2 j := fun j h => by rw [eG3]; exact m_up_ne _ _ h
  have sG3 : G3 5 = upd (G2 5) j (nI ps.length) := by rw [eG3]; exact m_up_self _ _ _
  have hfr : m_fr j G G3 := by
    rw [eG3]
    refine m_fr.trans ?_ (m_fr.set (by decide) (by decide))
    rw [eG2]
    refine m_fr.trans ?_ (m_fr.set (by decide) (by decide))
    rw [eG1]
    exact m_fr.set (by decide) (by decide)
  have hj4 : (G3 3 j = x ∧ G3 4 j = y) ∧ G3 5 j = nI ps.length := by
    refine ⟨⟨?_, ?_⟩, ?_⟩
    · rw [eG3, m_up_ne _ _ (by decide), eG2, m_up_ne _ _ (by decide), eG1, m_up_self, pk_us]
    · rw [eG3, m_up_ne _ _ (by decide), eG2, m_up_self, pk_us]
    · rw [eG3, m_up_self, pk_us]
  clear uG1 sG1 uG2 sG2 uG3 sG3 eG1 eG2 eG3
  refine lv_iconst (v := 0) hx hb d_Mo_name_24 (by decide) ?_
  refine lv_istore (lv' := [(4, .int 0), (0, .ref b), (1, .int (nI j)), (2, .int x), (3, .int y)]) hx hb d_Mo_name_25 hl (by decide) rfl (fun ls hl => ?_)
  refine x_loop (σ := Nat × m_G × Heap × List Loc × Array Slot) (fun z => F0 m 27 z.2.2.2.2 []) (fun z => z.2.2.1) (fun z => z.2.2.2.1) (fun z => z.1 ≤ ps.length ∧ m_O D b v0 v1 (nI ps.length) v3 v4 v5 v6 v7 z.2.2.1 ∧ m_R D A b z.2.1 z.2.2.1 ∧ m_K b H0 z.2.2.1 ∧ (∀ q ∈ z.2.2.2.1, m_fq b q.base) ∧ m_fr j G z.2.1 ∧ ((z.2.1 3 j = x ∧ z.2.1 4 j = y) ∧ z.2.1 5 j = nI ps.length) ∧ (∀ q, q < z.1 → z.2.1 7 (100 * j + q) = sb_b (ps.getD q 0)) ∧ lv_has z.2.2.2.2 5 [(4, .int (nI z.1)), (0, .ref b), (1, .int (nI j)), (2, .int x), (3, .int y)]) (fun z => ps.length - z.1) (s0 := (0, G3, Ha2, _, ls)) ⟨Nat.zero_le _, ho, hR, hM, hL, hfr, hj4, (fun q hq => absurd hq (Nat.not_lt_zero q)), (lv_sub hl [0, 1, 2, 3, 4] rfl)⟩ ?_
  clear hR ho hM hL hl
  rintro ⟨k, G5, H, locs, ls⟩ ⟨hk, ho, hR, hM, hL, hfr, hjj, hp, hl⟩ ih
  dsimp only at hk ho hR hM hL hfr hjj hp hl ih ⊢
  refine lv_iload hx hb d_Mo_name_27 (lv_at hl 0 rfl) ?_
  refine lv_aload_n hx hb d_Mo_name_29 rfl (lv_at hl 1 rfl) ?_
  refine x_get (ci := 8) (T := T_Mo) hx hb htb u_Mo hown hK ho rfl 4 (by decide) (htb _ mw_467) (fun _ h9 => h9) (v := .int (nI ps.length)) rfl d_Mo_name_30 ?_
  refine lv_icmp_ge (tgt := 61) hx hb d_Mo_name_33 (by decide) (fun c1 => ?_) (fun c1 => ?_)
  · have e1 : k = ps.length := Nat.le_antisymm hk (Nat.le_of_not_lt fun q => absurd c1 (nI_ge q (by omega)))
    subst e1
    clear ih
    refine lv_aload_n hx hb d_Mo_name_61 rfl (lv_at hl 1 rfl) ?_
    refine x_get (ci := 8) (T := T_Mo) hx hb htb u_Mo hown hK ho rfl 8 (by decide) (htb _ mw_471) (fun _ h9 => h9) (v := .ref (b + 6)) rfl d_Mo_name_62 ?_
    refine lv_iload_n hx hb d_Mo_name_65 rfl (lv_at hl 2 rfl) ?_
    refine lv_iconst (v := 0) hx hb d_Mo_name_66 (by decide) ?_
    refine m_ist hx hb hK ho hM hL hR 6 (by decide) (by decide) rfl (i := j) (show _ < 320 by omega) d_Mo_name_67 (fun H8 locs ho hM hL hR => ?_)
    obtain ⟨G8, eG8⟩ : ∃ Gq : m_G, Gq = m_up G5 6 (upd (G5 6) j 0) := ⟨_, rfl⟩
    rw [← eG8] at hR
    have uG8 : ∀ j, j ≠ 6 → G8 j = G5 j := fun j h => by rw [eG8]; exact m_up_ne _ _ h
    have sG8 : G8 6 = upd (G5 6) j 0 := by rw [eG8]; exact m_up_self _ _ _
    have hfr8 : m_fr j G5 G8 := by rw [eG8]; exact m_fr.set (by decide) (by decide)
    exact x_vret hx hb hr hlocks ⟨G8, ho, hR, hM, ⟨⟨(congrFun (uG8 _ (by decide)) _).trans hjj.1.1, (congrFun (uG8 _ (by decide)) _).trans hjj.1.2⟩, ⟨(congrFun (uG8 _ (by decide)) _).trans hjj.2, hp1, (fun q hq => (congrFun (uG8 _ (by decide)) _).trans (hp q hq)), hp3⟩, by rw [eG8, m_up_self, pk_us]; rfl, Nat.zero_le _, (fun q hq => absurd hq (Nat.not_lt_zero q)), fun u hu => by cases hu⟩, hfr.trans hfr8⟩ hL (Nat.le_refl _) (Nat.le_refl _) d_Mo_name_68
  · have hlt : k < ps.length := Nat.lt_of_not_le fun q => absurd (nI_le q (by omega)) c1
    refine lv_aload_n hx hb d_Mo_name_36 rfl (lv_at hl 1 rfl) ?_
    refine x_get (ci := 8) (T := T_Mo) hx hb htb u_Mo hown hK ho rfl 9 (by decide) (htb _ mw_472) (fun _ h9 => h9) (v := .ref (b + 7)) rfl d_Mo_name_37 ?_
    refine lv_bipush (v := 100) hx hb d_Mo_name_40 (by decide) ?_
    refine lv_iload_n hx hb d_Mo_name_42 rfl (lv_at hl 2 rfl) ?_
    refine lv_imul hx hb d_Mo_name_43 ?_
    refine lv_iload hx hb d_Mo_name_44 (lv_at hl 0 rfl) ?_
    refine lv_iadd hx hb d_Mo_name_46 ?_
    refine x_top (y := nI (100 * j + k)) (by rw [show (100 : Int32) = nI 100 from rfl, pk_mul, nI_add]) ?_
    refine lv_aload_n hx hb d_Mo_name_47 rfl (lv_at hl 1 rfl) ?_
    refine x_get (ci := 8) (T := T_Mo) hx hb htb u_Mo hown hK ho rfl 2 (by decide) (htb _ mw_465) (fun _ h9 => h9) (v := .ref (b + 2)) rfl d_Mo_name_48 ?_
    refine lv_iload hx hb d_Mo_name_51 (lv_at hl 0 rfl) ?_
    refine m_bld hx hb hK hR 2 (by decide) (by decide) rfl (i := k) (show _ < 100 by omega) d_Mo_name_53 ?_
    refine x_top (y := sb_b (ps.getD k 0)) ((congrFun (hfr.2 2 (by decide)) k).trans (hp2 k hlt)) ?_
    refine m_bst hx hb hK ho hM hL hR 7 (by decide) (by decide) rfl (i := 100 * j + k) (show _ < 32000 by omega) (m_nar _) d_Mo_name_54 (fun H7 locs ho hM hL hR => ?_)
    obtain ⟨G7, eG7⟩ : ∃ Gq : m_G, Gq = m_up G5 7 (upd (G5 7) (100 * j + k) (sb_b (ps.getD k 0))) := ⟨_, rfl⟩
    rw [← eG7] at hR
    have uG7 : ∀ j, j ≠ 7 → G7 j = G5 j := fun j h => by rw [eG7]; exact m_up_ne _ _ h
    have sG7 : G7 7 = upd (G5 7) (100 * j + k) (sb_b (ps.getD k 0)) := by rw [eG7]; exact m_up_self _ _ _
    have hfr7 : m_fr j G5 G7 := by rw [eG7]; exact m_fr.p (by omega)
    refine lv_iinc (v := nI (k + 1)) (lv' := [(4, .int (nI (k + 1))), (0, .ref b), (1, .int (nI j)), (2, .int x), (3, .int y)]) hx hb d_Mo_name_55 hl (k := 0) rfl (nI_1 k) (by decide) rfl (fun ls hl => ?_)
    refine lv_goto (tgt := 27) hx hb d_Mo_name_58 (by decide) ?_
    refine ih (k + 1, G7, H7, locs, ls) ⟨hlt, ho, hR, hM, hL, hfr.trans hfr7, ⟨⟨(congrFun (uG7 _ (by decide)) _).trans hjj.1.1, (congrFun (uG7 _ (by decide)) _).trans hjj.1.2⟩, (congrFun (uG7 _ (by decide)) _).trans hjj.2⟩, fun q hq => ?_, (lv_sub hl [0, 1, 2, 3, 4] rfl)⟩ (by show ps.length - (k + 1) < ps.length - k; omega)
    have hq : q < k + 1 := hq
    show G7 7 (100 * j + q) = _
    rw [eG7, m_up_self]
    rcases Nat.eq_or_lt_of_le (Nat.le_of_lt_succ hq) with e | e
    · subst e; rw [pk_us]
    · rw [pk_un (by omega)]; exact hp q e
