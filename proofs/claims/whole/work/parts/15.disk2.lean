def g_cntv (S : g_S) (x : Int32) : Int32 := if ¬ x < 0 ∧ x < 7 then nI (g_cnt S.2.2.1 x) else if x = 7 then nI S.2.2.1.length else if x = 8 then nI S.2.2.2.2.2.1.length else if x = 9 then nI S.1.length else if x = 10 then nI S.2.2.2.2.2.2 else -1
theorem x_in4 {x : Int32} (h : ¬ (x.toInt < 7 ∨ 10 < x.toInt)) : x = 7 ∨ x = 8 ∨ x = 9 ∨ x = 10 := by
  have h2 : x.toInt = 7 ∨ x.toInt = 8 ∨ x.toInt = 9 ∨ x.toInt = 10 := by omega
  rcases h2 with h | h | h | h
  · exact Or.inl (Int32.toInt_inj.mp h)
  · exact Or.inr (Or.inl (Int32.toInt_inj.mp h))
  · exact Or.inr (Or.inr (Or.inl (Int32.toInt_inj.mp h)))
  · exact Or.inr (Or.inr (Or.inr (Int32.toInt_inj.mp h)))
theorem g_os.push {D : va_G} {A : Nat → ClassId} {M : Nat → Prop} {as : List Nat} {os : List g_O} {H : Heap} {b : Nat} {o : g_O} (h : g_os D A M as os H) (ho : g_op D A M b o H) : g_os D A M (as ++ [b]) (os ++ [o]) H := by
  refine ⟨by rw [List.length_append, List.length_append, h.1]; rfl, fun j a f h1 h2 => ?_⟩
  rcases Nat.lt_trichotomy j as.length with w | w | w
  · rw [List.getElem?_append_left w] at h1
    rw [List.getElem?_append_left (by rw [← h.1]; exact w)] at h2
    exact h.2 j a f h1 h2
  · rw [List.getElem?_append_right (by omega), w, Nat.sub_self] at h1
    rw [List.getElem?_append_right (by rw [← h.1]; omega), w, h.1, Nat.sub_self] at h2
    cases h1
    cases h2
    exact ho
  · rw [List.getElem?_eq_none (by rw [List.length_append]; show _ + 1 ≤ j; omega)] at h1
    cases h1
def g_K2 (x y : Nat) (H H1 : Heap) : Prop := H.size ≤ H1.size ∧ ∀ q : Nat, q < H.size → q ≠ x → q ≠ y → H1[q]? = H[q]?
/-- the tape changes, and cells come -/
theorem g_D.tape1 {D : va_G} {A : Nat → ClassId} {a z : Nat} {S : g_S} {H H1 : Heap} (h : g_D D A a z S H) (hk : g_K2 z (z + 1) H H1) {v : List Nat} (n : g_tp D A z (z + 1) v H1) : g_D D A a z (v, S.2.1, S.2.2.1, S.2.2.2.1, S.2.2.2.2.1, S.2.2.2.2.2.1, S.2.2.2.2.2.2) H1 := by
  obtain ⟨pa, as, bs, cs, ds, h1, h2, h3, ⟨h4, h4s⟩, ⟨h5, h5s⟩, ⟨h6, h6s⟩, ⟨h7, h7s⟩, h8, h9⟩ := h
  have hq := hk.2
  have hK : g_K (g_M a z) H H1 := ⟨hk.1, fun q h hM => hq q h (fun e => hM (e ▸ g_M.in (i := 0) (by decide))) (fun e => hM (e ▸ g_M.in (by decide)))⟩
  exact ⟨pa, as, bs, cs, ds, h1.kept (hq _ (by omega) (by omega) (by omega)), n, h3.kept hK, ⟨h4.kept (hq _ (by omega) (by omega) (by omega)) (hq _ (by omega) (by omega) (by omega)), h4s.kept hK⟩, ⟨h5.kept (hq _ (by omega) (by omega) (by omega)) (hq _ (by omega) (by omega) (by omega)), h5s.kept hK⟩, ⟨h6.kept (hq _ (by omega) (by omega) (by omega)) (hq _ (by omega) (by omega) (by omega)), h6s.kept hK⟩, ⟨h7.kept (hq _ (by omega) (by omega) (by omega)) (hq _ (by omega) (by omega) (by omega)), h7s.kept hK⟩, h8, Nat.le_trans h9 hk.1⟩
set_option maxHeartbeats 4000000 in
set_option maxRecDepth 100000 in
theorem c_Bd_count (l : Launch) {D : va_G} {A : Nat → ClassId} {H0 : Heap} {a z : Nat} {S : g_S} (hd : g_D D A a z S H0) (x : Int32) : Met l y_Bd_count w_Bd_count { frames := 2, cells := 0, slots := 0, locals := 44 } (x_Pc D A [.ref a, .int x] H0) (x_Q (some (.int (g_cntv S x))) (fun H1 => H1 = H0)) 0 0 (fun _ => False) := by
  refine Met.ofW (cc := prog_1_method_13_code) (maxL := 2) (ret := (some .int)) (by decide) rfl ?_
  intro p e s m args below meth c s₁ B hml hv
  obtain ⟨rfl, hH, hK, hN⟩ := hv
  obtain ⟨hx, hb, hr, htb, hown, hlocks⟩ := x_start (wd := Cond.code y_Bd_count prog_1_method_13_code 2 (some .int)) B
  have hl := lv_entry ([.ref a, .int x]) (n := 2) (Nat.le_of_ble_eq_true rfl)
  rw [lg_entry_eq]
  generalize (lg_sl ([.ref a, .int x]) ++ List.replicate (2 - (lg_sl ([.ref a, .int x])).length) Slot.unset).toArray = ls at hl ⊢
  have hl : lv_has ls 2 [(0, .ref a), (1, .int x)] := hl
  rw [hH]
  obtain ⟨pa, as, bs, cs, ds, h1, h2, h3, ⟨h4, h4s⟩, ⟨h5, h5s⟩, ⟨h6, h6s⟩, ⟨h7, h7s⟩, h8, h9⟩ := id hd
  obtain ⟨f, t1, -⟩ := id h2
  obtain ⟨g4, g41, -⟩ := id h4
  obtain ⟨g7, g71, -⟩ := id h7
  refine lv_iload_n hx hb d_Bd_count_0 rfl (lv_at hl 1 rfl) ?_
  by_cases hs : g_sort x
  · refine x_callP (va_runS (As := [.int x]) (rest := []) ⟨hx, hb, hml, hown, htb⟩ (c_Bd_isSort l hs) (x_cS 1 htb mw_193 mw_1 mw_195 mw_194 rfl rfl (by decide +kernel) ⟨Nat.le_of_ble_eq_true rfl, Nat.le_of_ble_eq_true rfl⟩) (x_preS hK hN) rfl rfl hl.1 rfl (lv_room (Nat.le_of_ble_eq_true rfl)) d_Bd_count_1 ⟨Nat.le_of_ble_eq_true rfl, Nat.le_of_ble_eq_true rfl⟩) ?_
    refine W.eq (g2 := F0 m 4 ls [.int 1]) rfl ?_
    refine lv_if_eq (tgt := 16) hx hb d_Bd_count_4 (by decide) (fun c9 => absurd c9 (by decide)) (fun _ => ?_)
    refine lv_aload_n hx hb d_Bd_count_7 rfl (lv_at hl 0 rfl) ?_
    refine x_get (ci := 7) (T := T_Bd) hx hb htb u_Bd hown hK h1 rfl 1 (by decide) (htb _ mw_86) (fun _ h9 => h9) (v := .ref (z + 2)) rfl d_Bd_count_8 ?_
    refine lv_iload_n hx hb d_Bd_count_11 rfl (lv_at hl 1 rfl) ?_
    refine x_callP (va_runV (As := [.int x]) (rest := []) ⟨hx, hb, hml, hown, htb⟩ (c_Fi_countOfSort l h4 h4s x) (x_cV 1 htb mw_220 mw_3 mw_223 mw_221 mw_222 rfl rfl (by decide +kernel) ⟨Nat.le_of_ble_eq_true rfl, Nat.le_of_ble_eq_true rfl⟩) (x_preV hK hN g41 rfl) rfl rfl hl.1 rfl (lv_room (Nat.le_of_ble_eq_true rfl)) d_Bd_count_12 ⟨Nat.le_of_ble_eq_true rfl, Nat.le_of_ble_eq_true rfl⟩) ?_
    refine W.eq (g2 := F0 m 15 ls [.int (nI (g_cnt S.2.2.1 x))]) rfl ?_
    exact x_iret hx hb hr hlocks (by unfold g_cntv; rw [if_pos (show ¬ x < 0 ∧ x < 7 from hs)]) rfl (fun q hq => by cases hq) (Nat.le_refl _) (Nat.le_refl _) d_Bd_count_15
  · refine x_callP (va_runS (As := [.int x]) (rest := []) ⟨hx, hb, hml, hown, htb⟩ (c_Bd_isSortN l hs) (x_cS 1 htb mw_193 mw_1 mw_195 mw_194 rfl rfl (by decide +kernel) ⟨Nat.le_of_ble_eq_true rfl, Nat.le_of_ble_eq_true rfl⟩) (x_preS hK hN) rfl rfl hl.1 rfl (lv_room (Nat.le_of_ble_eq_true rfl)) d_Bd_count_1 ⟨Nat.le_of_ble_eq_true rfl, Nat.le_of_ble_eq_true rfl⟩) ?_
    refine W.eq (g2 := F0 m 4 ls [.int 0]) rfl ?_
    refine lv_if_eq (tgt := 16) hx hb d_Bd_count_4 (by decide) (fun _ => ?_) (fun c9 => absurd rfl c9)
    refine lv_iload_n hx hb d_Bd_count_16 rfl (lv_at hl 1 rfl) ?_
    by_cases hh : x.toInt < 7 ∨ 10 < x.toInt
    · refine lv_tableOut (tgt := 77) hx hb d_Bd_count_17 hh (by decide) ?_
      refine lv_iconst (v := (-1)) hx hb d_Bd_count_77 (by decide) ?_
      refine x_iret hx hb hr hlocks ?_ rfl (fun q hq => by cases hq) (Nat.le_refl _) (Nat.le_refl _) d_Bd_count_78
      unfold g_cntv
      rw [if_neg (show ¬ (¬ x < 0 ∧ x < 7) from hs), if_neg (fun e => by rw [e] at hh; exact absurd hh (by decide)), if_neg (fun e => by rw [e] at hh; exact absurd hh (by decide)), if_neg (fun e => by rw [e] at hh; exact absurd hh (by decide)), if_neg (fun e => by rw [e] at hh; exact absurd hh (by decide))]
    · rcases x_in4 hh with rfl | rfl | rfl | rfl
      · refine lv_tableIn (x := 7) (tgt := 48) (off := 31) hx hb d_Bd_count_17 (by decide) (by decide) (by decide) (by decide) ?_
        refine lv_aload_n hx hb d_Bd_count_48 rfl (lv_at hl 0 rfl) ?_
        refine x_get (ci := 7) (T := T_Bd) hx hb htb u_Bd hown hK h1 rfl 1 (by decide) (htb _ mw_86) (fun _ h9 => h9) (v := .ref (z + 2)) rfl d_Bd_count_49 ?_
        refine x_getN (ci := 5) (T := T_Fi) hx hb htb u_Fi hown hK g41 rfl 1 (by decide) (va_Nw.use rfl (hN.1 _ nf_53)) (fun _ h9 => h9) (v := .int (nI as.length)) rfl d_Bd_count_52 ?_
        exact x_iret hx hb hr hlocks (by unfold g_cntv; rw [if_neg (by decide), if_pos rfl, h4s.1]) rfl (fun q hq => by cases hq) (Nat.le_refl _) (Nat.le_refl _) d_Bd_count_55
      · refine lv_tableIn (x := 8) (tgt := 56) (off := 39) hx hb d_Bd_count_17 (by decide) (by decide) (by decide) (by decide) ?_
        refine lv_aload_n hx hb d_Bd_count_56 rfl (lv_at hl 0 rfl) ?_
        refine x_get (ci := 7) (T := T_Bd) hx hb htb u_Bd hown hK h1 rfl 4 (by decide) (htb _ mw_89) (fun _ h9 => h9) (v := .ref (z + 8)) rfl d_Bd_count_57 ?_
        refine x_getN (ci := 6) (T := T_Jo) hx hb htb u_Jo hown hK g71 rfl 1 (by decide) (va_Nw.use rfl (hN.1 _ nf_69)) (fun _ h9 => h9) (v := .int (nI ds.length)) rfl d_Bd_count_60 ?_
        exact x_iret hx hb hr hlocks (by unfold g_cntv; rw [if_neg (by decide), if_neg (by decide), if_pos rfl, h7s.1]) rfl (fun q hq => by cases hq) (Nat.le_refl _) (Nat.le_refl _) d_Bd_count_63
      · refine lv_tableIn (x := 9) (tgt := 64) (off := 47) hx hb d_Bd_count_17 (by decide) (by decide) (by decide) (by decide) ?_
        refine lv_aload_n hx hb d_Bd_count_64 rfl (lv_at hl 0 rfl) ?_
        refine x_get (ci := 7) (T := T_Bd) hx hb htb u_Bd hown hK h1 rfl 0 (by decide) (htb _ mw_85) (fun _ h9 => h9) (v := .ref z) rfl d_Bd_count_65 ?_
        refine x_getN (ci := 4) (T := T_Tp) hx hb htb u_Tp hown hK t1 rfl 1 (by decide) (va_Nw.use rfl (hN.1 _ nf_36)) (fun _ h9 => h9) (v := .int (nI S.1.length)) rfl d_Bd_count_68 ?_
        exact x_iret hx hb hr hlocks (by unfold g_cntv; rw [if_neg (by decide), if_neg (by decide), if_neg (by decide), if_pos rfl]) rfl (fun q hq => by cases hq) (Nat.le_refl _) (Nat.le_refl _) d_Bd_count_71
      · refine lv_tableIn (x := 10) (tgt := 72) (off := 55) hx hb d_Bd_count_17 (by decide) (by decide) (by decide) (by decide) ?_
        refine lv_aload_n hx hb d_Bd_count_72 rfl (lv_at hl 0 rfl) ?_
        refine x_get (ci := 7) (T := T_Bd) hx hb htb u_Bd hown hK h1 rfl 6 (by decide) (htb _ mw_91) (fun _ h9 => h9) (v := .int (nI S.2.2.2.2.2.2)) rfl d_Bd_count_73 ?_
        exact x_iret hx hb hr hlocks (by unfold g_cntv; rw [if_neg (by decide), if_neg (by decide), if_neg (by decide), if_neg (by decide), if_pos rfl]) rfl (fun q hq => by cases hq) (Nat.le_refl _) (Nat.le_refl _) d_Bd_count_76
set_option maxHeartbeats 4000000 in
set_option maxRecDepth 100000 in
theorem c_Bd_sync (l : Launch) {D : va_G} {A : Nat → ClassId} {H0 : Heap} {a z : Nat} {S : g_S} (hd : g_D D A a z S H0)  : Met l y_Bd_sync w_Bd_sync { frames := 1, cells := 0, slots := 0, locals := 22 } (x_Pc D A [.ref a] H0) (x_Q (some (.int (nI S.2.2.2.2.2.1.length))) (fun H1 => g_D D A a z (S.1, S.2.1, S.2.2.1, S.2.2.1, S.2.2.2.2.1, [], S.2.2.2.2.2.2 + 1) H1 ∧ g_K (g_M a z) H0 H1)) 0 0 (x_fr (g_Mx a z) H0) := by
  refine Met.ofW (cc := prog_1_method_7_code) (maxL := 2) (ret := (some .int)) (by decide) rfl ?_
  intro p e s m args below meth c s₁ B hml hv
  obtain ⟨rfl, hH, hK, hN⟩ := hv
  obtain ⟨hx, hb, hr, htb, hown, hlocks⟩ := x_start (wd := Cond.code y_Bd_sync prog_1_method_7_code 2 (some .int)) B
  have hl := lv_entry ([.ref a]) (n := 2) (Nat.le_of_ble_eq_true rfl)
  rw [lg_entry_eq]
  generalize (lg_sl ([.ref a]) ++ List.replicate (2 - (lg_sl ([.ref a])).length) Slot.unset).toArray = ls at hl ⊢
  have hl : lv_has ls 2 [(0, .ref a)] := hl
  rw [hH]
  obtain ⟨pa, as, bs, cs, ds, h1, h2, h3, ⟨h4, h4s⟩, ⟨h5, h5s⟩, ⟨h6, h6s⟩, ⟨h7, h7s⟩, h8, h9⟩ := id hd
  have hL : ∀ q ∈ ([] : List Loc), x_fr (g_Mx a z) H0 q.base := fun q hq => by cases hq
  obtain ⟨g5, g51, -⟩ := id h5
  obtain ⟨g7, g71, -⟩ := id h7
  refine lv_aload_n hx hb d_Bd_sync_0 rfl (lv_at hl 0 rfl) ?_
  refine x_get (ci := 7) (T := T_Bd) hx hb htb u_Bd hown hK h1 rfl 4 (by decide) (htb _ mw_89) (fun _ h9 => h9) (v := .ref (z + 8)) rfl d_Bd_sync_1 ?_
  refine x_getN (ci := 6) (T := T_Jo) hx hb htb u_Jo hown hK g71 rfl 1 (by decide) (va_Nw.use rfl (hN.1 _ nf_69)) (fun _ h9 => h9) (v := .int (nI ds.length)) rfl d_Bd_sync_4 ?_
  refine lv_istore_n (lv' := [(1, .int (nI ds.length)), (0, .ref a)]) hx hb d_Bd_sync_7 rfl hl (by decide) rfl (fun ls hl => ?_)
  refine lv_aload_n hx hb d_Bd_sync_8 rfl (lv_at hl 1 rfl) ?_
  refine x_get (ci := 7) (T := T_Bd) hx hb htb u_Bd hown hK h1 rfl 2 (by decide) (htb _ mw_87) (fun _ h9 => h9) (v := .ref (z + 4)) rfl d_Bd_sync_9 ?_
  refine lv_aload_n hx hb d_Bd_sync_12 rfl (lv_at hl 1 rfl) ?_
  refine x_get (ci := 7) (T := T_Bd) hx hb htb u_Bd hown hK h1 rfl 1 (by decide) (htb _ mw_86) (fun _ h9 => h9) (v := .ref (z + 2)) rfl d_Bd_sync_13 ?_
  refine x_call (F := x_fr (g_Mx a z) H0) (va_runV (As := [.ref (z + 2)]) (rest := []) ⟨hx, hb, hml, hown, htb⟩ (c_Fi_copyFrom l h5 h4 h4s (g_M.in (i := 4) (by decide)) (g_M.in (i := 5) (by decide)) (by omega) (by omega) (by omega) (by omega) (by omega)) (x_cV 1 htb mw_119 mw_3 mw_122 mw_120 mw_121 rfl rfl (by decide +kernel) ⟨Nat.le_of_ble_eq_true rfl, Nat.le_of_ble_eq_true rfl⟩) (x_preV hK hN g51 rfl) rfl rfl hl.1 rfl (lv_room (Nat.le_of_ble_eq_true rfl)) d_Bd_sync_16 ⟨Nat.le_of_ble_eq_true rfl, Nat.le_of_ble_eq_true rfl⟩) hL (fun q hq => Or.inl (hq.elim (fun e => e ▸ g_M.in (by decide)) (fun e => e ▸ g_M.in (by decide)))) (fun H1 locs hP hL => ?_)
  refine W.eq (g2 := F0 m 19 ls []) rfl ?_
  obtain ⟨q1, q2⟩ := hP
  have hk1 := q2.K (M := g_M a z) (g_M.in (i := 4) (by decide)) (g_M.in (i := 5) (by decide))
  have hd1 := hd.kept q2 q1 (h4s.kept hk1)
  have h1 := q2.at h1 (by omega) (by omega)
  have h7 := h7.kept (q2.2 _ (by omega) (by omega)) (q2.2 _ (by omega) (by omega))
  obtain ⟨g8, g81, -⟩ := id h7
  refine lv_aload_n hx hb d_Bd_sync_19 rfl (lv_at hl 1 rfl) ?_
  refine x_get (ci := 7) (T := T_Bd) hx hb htb u_Bd hown hK h1 rfl 4 (by decide) (htb _ mw_89) (fun _ h9 => h9) (v := .ref (z + 8)) rfl d_Bd_sync_20 ?_
  refine x_call (F := x_fr (g_Mx a z) H0) (va_runV (As := []) (rest := []) ⟨hx, hb, hml, hown, htb⟩ (c_Jo_clear l h7 (by omega)) (x_cV 0 htb mw_123 mw_4 mw_126 mw_124 mw_125 rfl rfl (by decide +kernel) ⟨Nat.le_of_ble_eq_true rfl, Nat.le_of_ble_eq_true rfl⟩) (x_preV hK hN g81 rfl) rfl rfl hl.1 rfl (lv_room (Nat.le_of_ble_eq_true rfl)) d_Bd_sync_23 ⟨Nat.le_of_ble_eq_true rfl, Nat.le_of_ble_eq_true rfl⟩) hL (fun q hq => Or.inl (hq.elim (fun e => e ▸ g_M.in (by decide)) (fun e => e ▸ g_M.in (by decide)))) (fun H2 locs hP hL => ?_)
  refine W.eq (g2 := F0 m 26 ls []) rfl ?_
  obtain ⟨q3, q4⟩ := hP
  have hk2 := q4.K (M := g_M a z) (g_M.in (i := 8) (by decide)) (g_M.in (i := 9) (by decide))
  have hd2 := hd1.ops q4 q3 g_os.nil
  have h1 := q4.at h1 (by omega) (by omega)
  refine lv_aload_n hx hb d_Bd_sync_26 rfl (lv_at hl 1 rfl) ?_
  refine lv_dup hx hb d_Bd_sync_27 rfl ?_
  refine x_get (ci := 7) (T := T_Bd) hx hb htb u_Bd hown hK h1 rfl 6 (by decide) (htb _ mw_91) (fun _ h9 => h9) (v := .int (nI S.2.2.2.2.2.2)) rfl d_Bd_sync_28 ?_
  refine lv_iconst (v := 1) hx hb d_Bd_sync_31 (by decide) ?_
  refine lv_iadd hx hb d_Bd_sync_32 ?_
  refine x_top (y := nI (S.2.2.2.2.2.2 + 1)) (nI_1 _) ?_
  refine x_put (F := x_fr (g_Mx a z) H0) (ci := 7) (v := .int (nI (S.2.2.2.2.2.2 + 1))) (ty := .int) (T := T_Bd) hx hb htb u_Bd t_Bd t_Bd_ok n_Bd hown hK h1 hL (Or.inl (Or.inl rfl)) rfl 6 (by decide) (htb _ mw_91) (fun _ h9 => h9) rfl (by decide +kernel) rfl rfl (Nat.le_of_ble_eq_true rfl) d_Bd_sync_33 (fun H3 locs q5 hc1 hL => ?_)
  have q5 : va_at D x_cl (a, .inr (7, [.ref z, .ref (z + 2), .ref (z + 4), .ref (z + 6), .ref (z + 8), .ref pa, .int (nI (S.2.2.2.2.2.2 + 1))])) H3 := q5
  refine lv_iload_n hx hb d_Bd_sync_36 rfl (lv_at hl 0 rfl) ?_
  have hk3 : g_K (g_M a z) H2 H3 := g_K.but hc1 (Or.inl rfl)
  exact x_iret hx hb hr hlocks (by rw [h7s.1]) ⟨hd2.obj hc1 q5 (((h3.kept hk1).kept hk2).kept hk3), (hk1.trans hk2).trans hk3⟩ hL (Nat.le_refl _) (Nat.le_refl _) d_Bd_sync_37
set_option maxHeartbeats 4000000 in
set_option maxRecDepth 100000 in
theorem c_Bd_perform (l : Launch) {D : va_G} {A : Nat → ClassId} {H0 : Heap} {a z : Nat} {S : g_S} (hd : g_D D A a z S H0) {b : Nat} {o : g_O} (ho : g_op D A (g_Mx a z) b o H0) (hlt : S.2.2.2.2.2.1.length < 200) : Met l y_Bd_perform w_Bd_perform { frames := 5, cells := 0, slots := 0, locals := 111 } (x_Pc D A [.ref a, .ref b] H0) (x_Q none (fun H1 => g_D D A a z (S.1, S.2.1, g_ap S.2.2.1 o, S.2.2.2.1, S.2.2.2.2.1, S.2.2.2.2.2.1 ++ [o], S.2.2.2.2.2.2 + 1) H1 ∧ g_K (g_M a z) H0 H1 ∧ H1.size = H0.size)) 0 0 (x_fr (g_Mx a z) H0) := by
  refine Met.ofW (cc := prog_1_method_19_code) (maxL := 2) (ret := none) (by decide) rfl ?_
  intro p e s m args below meth c s₁ B hml hv
  obtain ⟨rfl, hH, hK, hN⟩ := hv
  obtain ⟨hx, hb, hr, htb, hown, hlocks⟩ := x_start (wd := Cond.code y_Bd_perform prog_1_method_19_code 2 none) B
  have hl := lv_entry ([.ref a, .ref b]) (n := 2) (Nat.le_of_ble_eq_true rfl)
  rw [lg_entry_eq]
  generalize (lg_sl ([.ref a, .ref b]) ++ List.replicate (2 - (lg_sl ([.ref a, .ref b])).length) Slot.unset).toArray = ls at hl ⊢
  have hl : lv_has ls 2 [(0, .ref a), (1, .ref b)] := hl
  rw [hH]
  obtain ⟨pa, as, bs, cs, ds, h1, h2, h3, ⟨h4, h4s⟩, ⟨h5, h5s⟩, ⟨h6, h6s⟩, ⟨h7, h7s⟩, h8, h9⟩ := id hd
  have hL : ∀ q ∈ ([] : List Loc), x_fr (g_Mx a z) H0 q.base := fun q hq => by cases hq
  obtain ⟨g4, g41, -⟩ := id h4
  obtain ⟨nb, vb, b1, -⟩ := id ho
  refine lv_aload_n hx hb d_Bd_perform_0 rfl (lv_at hl 0 rfl) ?_
  refine x_get (ci := 7) (T := T_Bd) hx hb htb u_Bd hown hK h1 rfl 1 (by decide) (htb _ mw_86) (fun _ h9 => h9) (v := .ref (z + 2)) rfl d_Bd_perform_1 ?_
  refine lv_aload_n hx hb d_Bd_perform_4 rfl (lv_at hl 1 rfl) ?_
  refine x_call (F := x_fr (g_Mx a z) H0) (va_runV (As := [.ref b]) (rest := []) ⟨hx, hb, hml, hown, htb⟩ (c_Fi_apply l h4 h4s ho (g_M.in (i := 2) (by decide)) (g_M.in (i := 3) (by decide)) (by omega)) (x_cV 1 htb mw_410 mw_3 mw_413 mw_411 mw_412 rfl rfl (by decide +kernel) ⟨Nat.le_of_ble_eq_true rfl, Nat.le_of_ble_eq_true rfl⟩) (x_preV hK hN g41 rfl) rfl rfl hl.1 rfl (lv_room (Nat.le_of_ble_eq_true rfl)) d_Bd_perform_5 ⟨Nat.le_of_ble_eq_true rfl, Nat.le_of_ble_eq_true rfl⟩) hL (fun q hq => Or.inl (hq.elim (fun e => e ▸ g_M.in (by decide)) (fun e => e ▸ g_M.in (by decide)))) (fun H1 locs hP hL => ?_)
  refine W.eq (g2 := F0 m 8 ls []) rfl ?_
  obtain ⟨xs, q1, q1s, q2⟩ := hP
  have hk1 := q2.K (M := g_M a z) (g_M.in (i := 2) (by decide)) (g_M.in (i := 3) (by decide))
  have hd1 := hd.now q2 q1 q1s
  have h1 := q2.at h1 (by omega) (by omega)
  have h7 := h7.kept (q2.2 _ (by omega) (by omega)) (q2.2 _ (by omega) (by omega))
  have ho1 := ho.kept hk1
  obtain ⟨g8, g81, -⟩ := id h7
  refine lv_aload_n hx hb d_Bd_perform_8 rfl (lv_at hl 0 rfl) ?_
  refine x_get (ci := 7) (T := T_Bd) hx hb htb u_Bd hown hK h1 rfl 4 (by decide) (htb _ mw_89) (fun _ h9 => h9) (v := .ref (z + 8)) rfl d_Bd_perform_9 ?_
  refine lv_aload_n hx hb d_Bd_perform_12 rfl (lv_at hl 1 rfl) ?_
  refine x_call (F := x_fr (g_Mx a z) H0) (va_runV (As := [.ref b]) (rest := []) ⟨hx, hb, hml, hown, htb⟩ (c_Jo_append l h7 ho1 (by omega) (by rw [h7s.1]; exact hlt)) (x_cV 1 htb mw_418 mw_4 mw_421 mw_419 mw_420 rfl rfl (by decide +kernel) ⟨Nat.le_of_ble_eq_true rfl, Nat.le_of_ble_eq_true rfl⟩) (x_preV hK hN g81 rfl) rfl rfl hl.1 rfl (lv_room (Nat.le_of_ble_eq_true rfl)) d_Bd_perform_13 ⟨Nat.le_of_ble_eq_true rfl, Nat.le_of_ble_eq_true rfl⟩) hL (fun q hq => Or.inl (hq.elim (fun e => e ▸ g_M.in (by decide)) (fun e => e ▸ g_M.in (by decide)))) (fun H2 locs hP hL => ?_)
  refine W.eq (g2 := F0 m 16 ls []) rfl ?_
  obtain ⟨q3, q4⟩ := hP
  have hk2 := q4.K (M := g_M a z) (g_M.in (i := 8) (by decide)) (g_M.in (i := 9) (by decide))
  have hd2 := hd1.ops q4 q3 (((h7s.kept hk1).kept hk2).push (ho1.kept hk2))
  have h1 := q4.at h1 (by omega) (by omega)
  refine lv_aload_n hx hb d_Bd_perform_16 rfl (lv_at hl 0 rfl) ?_
  refine lv_dup hx hb d_Bd_perform_17 rfl ?_
  refine x_get (ci := 7) (T := T_Bd) hx hb htb u_Bd hown hK h1 rfl 6 (by decide) (htb _ mw_91) (fun _ h9 => h9) (v := .int (nI S.2.2.2.2.2.2)) rfl d_Bd_perform_18 ?_
  refine lv_iconst (v := 1) hx hb d_Bd_perform_21 (by decide) ?_
  refine lv_iadd hx hb d_Bd_perform_22 ?_
  refine x_top (y := nI (S.2.2.2.2.2.2 + 1)) (nI_1 _) ?_
  refine x_put (F := x_fr (g_Mx a z) H0) (ci := 7) (v := .int (nI (S.2.2.2.2.2.2 + 1))) (ty := .int) (T := T_Bd) hx hb htb u_Bd t_Bd t_Bd_ok n_Bd hown hK h1 hL (Or.inl (Or.inl rfl)) rfl 6 (by decide) (htb _ mw_91) (fun _ h9 => h9) rfl (by decide +kernel) rfl rfl (Nat.le_of_ble_eq_true rfl) d_Bd_perform_23 (fun H3 locs q5 hc2 hL => ?_)
  have q5 : va_at D x_cl (a, .inr (7, [.ref z, .ref (z + 2), .ref (z + 4), .ref (z + 6), .ref (z + 8), .ref pa, .int (nI (S.2.2.2.2.2.2 + 1))])) H3 := q5
  have hk3 : g_K (g_M a z) H2 H3 := g_K.but hc2 (Or.inl rfl)
  exact x_vret hx hb hr hlocks ⟨hd2.obj hc2 q5 (((h3.kept hk1).kept hk2).kept hk3), (hk1.trans hk2).trans hk3, by rw [hc2.1, q4.1, q2.1]⟩ hL (Nat.le_refl _) (Nat.le_refl _) d_Bd_perform_26
set_option maxHeartbeats 4000000 in
set_option maxRecDepth 100000 in
theorem c_Bd_breakOff (l : Launch) {D : va_G} {A : Nat → ClassId} {H0 : Heap} {a z : Nat} {S : g_S} (hd : g_D D A a z S H0) {n : Int32} (hn : ¬ n < 0) : Met l y_Bd_breakOff w_Bd_breakOff { frames := 6, cells := 0, slots := 0, locals := 135 } (x_Pc D A [.ref a, .int n] H0) (x_Q (some (.int (nI (min n.toNatClampNeg S.2.2.2.2.2.1.length)))) (fun H1 => g_D D A a z (S.1, S.2.1, g_rep S.2.2.2.1 (S.2.2.2.2.2.1.take (min n.toNatClampNeg S.2.2.2.2.2.1.length)), g_rep S.2.2.2.1 (S.2.2.2.2.2.1.take (min n.toNatClampNeg S.2.2.2.2.2.1.length)), S.2.2.2.2.1, [], S.2.2.2.2.2.2) H1 ∧ g_K (g_M a z) H0 H1)) 0 0 (x_fr (g_Mx a z) H0) := by
  refine Met.ofW (cc := prog_1_method_8_code) (maxL := 3) (ret := (some .int)) (by decide) rfl ?_
  intro p e s m args below meth c s₁ B hml hv
  obtain ⟨rfl, hH, hK, hN⟩ := hv
  obtain ⟨hx, hb, hr, htb, hown, hlocks⟩ := x_start (wd := Cond.code y_Bd_breakOff prog_1_method_8_code 3 (some .int)) B
  have hl := lv_entry ([.ref a, .int n]) (n := 3) (Nat.le_of_ble_eq_true rfl)
  rw [lg_entry_eq]
  generalize (lg_sl ([.ref a, .int n]) ++ List.replicate (3 - (lg_sl ([.ref a, .int n])).length) Slot.unset).toArray = ls at hl ⊢
  have hl : lv_has ls 3 [(0, .ref a), (1, .int n)] := hl
  rw [hH]
  obtain ⟨pa, as, bs, cs, ds, h1, h2, h3, ⟨h4, h4s⟩, ⟨h5, h5s⟩, ⟨h6, h6s⟩, ⟨h7, h7s⟩, h8, h9⟩ := id hd
  have hL : ∀ q ∈ ([] : List Loc), x_fr (g_Mx a z) H0 q.base := fun q hq => by cases hq
  obtain ⟨g7, g71, g72, g73, g74⟩ := id h7
  obtain ⟨j, hj31, rfl⟩ := nI_of hn
  rw [nI_clamp hj31]
  generalize hkk : min j S.2.2.2.2.2.1.length = k
  refine lv_iload_n hx hb d_Bd_breakOff_0 rfl (lv_at hl 1 rfl) ?_
  refine lv_if_ge (tgt := 14) hx hb d_Bd_breakOff_1 (by decide) (fun _ => ?_) (fun c9 => absurd (nI_pos' hj31) c9)
  refine lv_iload_n hx hb d_Bd_breakOff_14 rfl (lv_at hl 1 rfl) ?_
  refine lv_aload_n hx hb d_Bd_breakOff_15 rfl (lv_at hl 0 rfl) ?_
  refine x_get (ci := 7) (T := T_Bd) hx hb htb u_Bd hown hK h1 rfl 4 (by decide) (htb _ mw_89) (fun _ h9 => h9) (v := .ref (z + 8)) rfl d_Bd_breakOff_16 ?_
  refine x_getN (ci := 6) (T := T_Jo) hx hb htb u_Jo hown hK g71 rfl 1 (by decide) (va_Nw.use rfl (hN.1 _ nf_69)) (fun _ h9 => h9) (v := .int (nI ds.length)) rfl d_Bd_breakOff_19 ?_
  refine va_mmin hx hb (by rw [hml]; exact hl.1.symm) hown (htb _ mw_449) (htb _ mw_315) (htb _ mw_12) (show (Cond.code Lib.Math.min.name Lib.Math.min.code 2 (some .int)).before _ s = true from htb _ mw_316) (Nat.le_of_ble_eq_true rfl) (Nat.le_of_ble_eq_true rfl) (Nat.le_of_ble_eq_true rfl) (Nat.le_of_ble_eq_true rfl) d_Bd_breakOff_22 ?_
  have hmin : (if nI ds.length < nI j then nI ds.length else nI j) = nI k := by
    rw [← hkk, ← h7s.1]
    by_cases q : nI ds.length < nI j
    · rw [if_pos q, Nat.min_eq_right (Nat.le_of_not_lt fun w => absurd q (nI_nlt (by omega) (by omega)))]
    · rw [if_neg q, Nat.min_eq_left (Nat.le_of_not_lt fun w => q (nI_lt w hj31))]
  have hkd : k ≤ ds.length := by rw [← hkk, h7s.1]; exact Nat.min_le_right _ _
  refine x_top (y := nI k) (hmin) ?_
  refine lv_istore_n (lv' := [(2, .int (nI k)), (0, .ref a), (1, .int (nI j))]) hx hb d_Bd_breakOff_25 rfl hl (by decide) rfl (fun ls hl => ?_)
  refine lv_aload_n hx hb d_Bd_breakOff_26 rfl (lv_at hl 1 rfl) ?_
  refine x_get (ci := 7) (T := T_Bd) hx hb htb u_Bd hown hK h1 rfl 4 (by decide) (htb _ mw_89) (fun _ h9 => h9) (v := .ref (z + 8)) rfl d_Bd_breakOff_27 ?_
  refine lv_iload_n hx hb d_Bd_breakOff_30 rfl (lv_at hl 0 rfl) ?_
  refine lv_aload_n hx hb d_Bd_breakOff_31 rfl (lv_at hl 1 rfl) ?_
  refine x_get (ci := 7) (T := T_Bd) hx hb htb u_Bd hown hK h1 rfl 2 (by decide) (htb _ mw_87) (fun _ h9 => h9) (v := .ref (z + 4)) rfl d_Bd_breakOff_32 ?_
  refine x_call (F := x_fr (g_Mx a z) H0) (va_runV (As := [.int (nI k), .ref (z + 4)]) (rest := []) ⟨hx, hb, hml, hown, htb⟩ (c_Jo_replayFirst l h7 h7s h5 h5s (g_M.in (i := 4) (by decide)) (g_M.in (i := 5) (by decide)) (by omega) (by omega) (by omega) (by omega) (by omega) hkd) (x_cV 2 htb mw_450 mw_4 mw_453 mw_451 mw_452 rfl rfl (by decide +kernel) ⟨Nat.le_of_ble_eq_true rfl, Nat.le_of_ble_eq_true rfl⟩) (x_preV hK hN g71 rfl) rfl rfl hl.1 rfl (lv_room (Nat.le_of_ble_eq_true rfl)) d_Bd_breakOff_35 ⟨Nat.le_of_ble_eq_true rfl, Nat.le_of_ble_eq_true rfl⟩) hL (fun q hq => Or.inl (hq.elim (fun e => e ▸ g_M.in (by decide)) (fun e => e ▸ g_M.in (by decide)))) (fun H1 locs hP hL => ?_)
  refine W.eq (g2 := F0 m 38 ls []) rfl ?_
  obtain ⟨xs, q1, q1s, q2⟩ := hP
  have hk1 := q2.K (M := g_M a z) (g_M.in (i := 4) (by decide)) (g_M.in (i := 5) (by decide))
  have hd1 := hd.kept q2 q1 q1s
  have h1 := q2.at h1 (by omega) (by omega)
  have h4 := h4.kept (q2.2 _ (by omega) (by omega)) (q2.2 _ (by omega) (by omega))
  have h7 := h7.kept (q2.2 _ (by omega) (by omega)) (q2.2 _ (by omega) (by omega))
  obtain ⟨g4, g41, -⟩ := id h4
  refine lv_aload_n hx hb d_Bd_breakOff_38 rfl (lv_at hl 1 rfl) ?_
  refine x_get (ci := 7) (T := T_Bd) hx hb htb u_Bd hown hK h1 rfl 1 (by decide) (htb _ mw_86) (fun _ h9 => h9) (v := .ref (z + 2)) rfl d_Bd_breakOff_39 ?_
  refine lv_aload_n hx hb d_Bd_breakOff_42 rfl (lv_at hl 1 rfl) ?_
  refine x_get (ci := 7) (T := T_Bd) hx hb htb u_Bd hown hK h1 rfl 2 (by decide) (htb _ mw_87) (fun _ h9 => h9) (v := .ref (z + 4)) rfl d_Bd_breakOff_43 ?_
  refine x_call (F := x_fr (g_Mx a z) H0) (va_runV (As := [.ref (z + 4)]) (rest := []) ⟨hx, hb, hml, hown, htb⟩ (c_Fi_copyFrom l h4 q1 q1s (g_M.in (i := 2) (by decide)) (g_M.in (i := 3) (by decide)) (by omega) (by omega) (by omega) (by omega) (by omega)) (x_cV 1 htb mw_119 mw_3 mw_122 mw_120 mw_121 rfl rfl (by decide +kernel) ⟨Nat.le_of_ble_eq_true rfl, Nat.le_of_ble_eq_true rfl⟩) (x_preV hK hN g41 rfl) rfl rfl hl.1 rfl (lv_room (Nat.le_of_ble_eq_true rfl)) d_Bd_breakOff_46 ⟨Nat.le_of_ble_eq_true rfl, Nat.le_of_ble_eq_true rfl⟩) hL (fun q hq => Or.inl (hq.elim (fun e => e ▸ g_M.in (by decide)) (fun e => e ▸ g_M.in (by decide)))) (fun H2 locs hP hL => ?_)
  refine W.eq (g2 := F0 m 49 ls []) rfl ?_
  obtain ⟨q3, q4⟩ := hP
  have hk2 := q4.K (M := g_M a z) (g_M.in (i := 2) (by decide)) (g_M.in (i := 3) (by decide))
  have hd2 := hd1.now q4 q3 (q1s.kept hk2)
  have h1 := q4.at h1 (by omega) (by omega)
  have h7 := h7.kept (q4.2 _ (by omega) (by omega)) (q4.2 _ (by omega) (by omega))
  obtain ⟨g8, g81, -⟩ := id h7
  refine lv_aload_n hx hb d_Bd_breakOff_49 rfl (lv_at hl 1 rfl) ?_
  refine x_get (ci := 7) (T := T_Bd) hx hb htb u_Bd hown hK h1 rfl 4 (by decide) (htb _ mw_89) (fun _ h9 => h9) (v := .ref (z + 8)) rfl d_Bd_breakOff_50 ?_
  refine x_call (F := x_fr (g_Mx a z) H0) (va_runV (As := []) (rest := []) ⟨hx, hb, hml, hown, htb⟩ (c_Jo_clear l h7 (by omega)) (x_cV 0 htb mw_123 mw_4 mw_126 mw_124 mw_125 rfl rfl (by decide +kernel) ⟨Nat.le_of_ble_eq_true rfl, Nat.le_of_ble_eq_true rfl⟩) (x_preV hK hN g81 rfl) rfl rfl hl.1 rfl (lv_room (Nat.le_of_ble_eq_true rfl)) d_Bd_breakOff_53 ⟨Nat.le_of_ble_eq_true rfl, Nat.le_of_ble_eq_true rfl⟩) hL (fun q hq => Or.inl (hq.elim (fun e => e ▸ g_M.in (by decide)) (fun e => e ▸ g_M.in (by decide)))) (fun H3 locs hP hL => ?_)
  refine W.eq (g2 := F0 m 56 ls []) rfl ?_
  obtain ⟨q5, q6⟩ := hP
  have hk3 := q6.K (M := g_M a z) (g_M.in (i := 8) (by decide)) (g_M.in (i := 9) (by decide))
  refine lv_iload_n hx hb d_Bd_breakOff_56 rfl (lv_at hl 0 rfl) ?_
  exact x_iret hx hb hr hlocks rfl ⟨hd2.ops q6 q5 g_os.nil, (hk1.trans hk2).trans hk3⟩ hL (Nat.le_refl _) (Nat.le_refl _) d_Bd_breakOff_57
set_option maxHeartbeats 4000000 in
set_option maxRecDepth 100000 in
theorem c_Bd_path (l : Launch) {D : va_G} {A : Nat → ClassId} {H0 : Heap} {a z : Nat} {S : g_S} (hd : g_D D A a z S H0) (hlen : S.1.length ≤ 100) : Met l y_Bd_path w_Bd_path { frames := 3, cells := 2, slots := 401, locals := 103 } (x_Pc D A [.ref a] H0) (x_Q (some (.int (nI S.1.length))) (fun H1 => g_D D A a z ([], S.1, S.2.2.1, S.2.2.2.1, S.2.2.2.2.1, S.2.2.2.2.2.1, S.2.2.2.2.2.2) H1 ∧ g_K (g_M a z) H0 H1)) 2 401 (x_fr (g_Mx a z) H0) := by
  refine Met.ofW (cc := prog_1_method_3_code) (maxL := 1) (ret := (some .int)) (by decide) rfl ?_
  intro p e s m args below meth c s₁ B hml hv
  obtain ⟨rfl, hH, hK, hN⟩ := hv
  obtain ⟨hx, hb, hr, htb, hown, hlocks⟩ := x_start (wd := Cond.code y_Bd_path prog_1_method_3_code 1 (some .int)) B
  have hl := lv_entry ([.ref a]) (n := 1) (Nat.le_of_ble_eq_true rfl)
  rw [lg_entry_eq]
  generalize (lg_sl ([.ref a]) ++ List.replicate (1 - (lg_sl ([.ref a])).length) Slot.unset).toArray = ls at hl ⊢
  have hl : lv_has ls 1 [(0, .ref a)] := hl
  rw [hH]
  obtain ⟨pa, as, bs, cs, ds, h1, h2, h3, ⟨h4, h4s⟩, ⟨h5, h5s⟩, ⟨h6, h6s⟩, ⟨h7, h7s⟩, h8, h9⟩ := id hd
  have hL : ∀ q ∈ ([] : List Loc), x_fr (g_Mx a z) H0 q.base := fun q hq => by cases hq
  obtain ⟨f, t1, -⟩ := id h2
  refine lv_aload_n hx hb d_Bd_path_0 rfl (lv_at hl 0 rfl) ?_
  refine x_get (ci := 7) (T := T_Bd) hx hb htb u_Bd hown hK h1 rfl 0 (by decide) (htb _ mw_85) (fun _ h9 => h9) (v := .ref z) rfl d_Bd_path_1 ?_
  refine x_getN (ci := 4) (T := T_Tp) hx hb htb u_Tp hown hK t1 rfl 1 (by decide) (va_Nw.use rfl (hN.1 _ nf_36)) (fun _ h9 => h9) (v := .int (nI S.1.length)) rfl d_Bd_path_4 ?_
  refine lv_bipush (v := 100) hx hb d_Bd_path_7 (by decide) ?_
  refine lv_icmp_le (tgt := 22) hx hb d_Bd_path_9 (by decide) (fun _ => ?_) (fun c9 => absurd (nI_le (a := S.1.length) (b := 100) hlen (by omega)) c9)
  refine lv_aload_n hx hb d_Bd_path_22 rfl (lv_at hl 0 rfl) ?_
  refine lv_aload_n hx hb d_Bd_path_23 rfl (lv_at hl 0 rfl) ?_
  refine x_get (ci := 7) (T := T_Bd) hx hb htb u_Bd hown hK h1 rfl 0 (by decide) (htb _ mw_85) (fun _ h9 => h9) (v := .ref z) rfl d_Bd_path_24 ?_
  refine x_call (F := x_fr (g_Mx a z) H0) (va_runV (As := []) (rest := [.ref a]) ⟨hx, hb, hml, hown, htb⟩ (c_Tp_take l (M := g_Mx a z) h2 (g_M.in (i := 0) (by decide)) (g_M.in (i := 1) (by decide)) hd.new (by omega)) (x_cV 0 htb mw_299 mw_2 mw_302 mw_300 mw_301 rfl rfl (by decide +kernel) ⟨Nat.le_of_ble_eq_true rfl, Nat.le_of_ble_eq_true rfl⟩) (x_preV hK hN t1 rfl) rfl rfl hl.1 rfl (lv_room (Nat.le_of_ble_eq_true rfl)) d_Bd_path_27 ⟨Nat.le_of_ble_eq_true rfl, Nat.le_of_ble_eq_true rfl⟩) hL (fun q hq => hq) (fun H1 locs hP hL => ?_)
  refine W.eq (g2 := F0 m 30 ls [.ref H0.size, .ref a]) rfl ?_
  obtain ⟨q1, q2, q3⟩ := hP
  have hd1 := hd.tape1 q3 q2
  have q3 : g_K (g_M a z) H0 H1 := ⟨q3.1, fun q h hM => q3.2 q h (fun e => hM (e ▸ g_M.in (i := 0) (by decide))) (fun e => hM (e ▸ g_M.in (by decide)))⟩
  obtain ⟨pa, as, bs, cs, ds, h1, h2, h3, ⟨h4, h4s⟩, ⟨h5, h5s⟩, ⟨h6, h6s⟩, ⟨h7, h7s⟩, h8, h9⟩ := id hd1
  refine x_put (F := x_fr (g_Mx a z) H0) (ci := 7) (v := .ref H0.size) (ty := .object "BreakingDisk$Bytes") (T := T_Bd) hx hb htb u_Bd t_Bd t_Bd_ok n_Bd hown hK h1 hL (Or.inl (Or.inl rfl)) rfl 5 (by decide) (htb _ mw_90) (fun _ h9 => h9) rfl (by decide +kernel) rfl rfl (Nat.le_of_ble_eq_true rfl) d_Bd_path_30 (fun H2 locs q5 hc3 hL => ?_)
  have q5 : va_at D x_cl (a, .inr (7, [.ref z, .ref (z + 2), .ref (z + 4), .ref (z + 6), .ref (z + 8), .ref H0.size, .int (nI S.2.2.2.2.2.2)])) H2 := q5
  have hk2 : g_K (g_M a z) H1 H2 := g_K.but hc3 (Or.inl rfl)
  have q1 := q1.kept hk2
  obtain ⟨pr, r1, -⟩ := id q1
  refine lv_aload_n hx hb d_Bd_path_33 rfl (lv_at hl 0 rfl) ?_
  refine x_get (ci := 7) (T := T_Bd) hx hb htb u_Bd hown hK q5 rfl 5 (by decide) (htb _ mw_90) (fun _ h9 => h9) (v := .ref H0.size) rfl d_Bd_path_34 ?_
  refine x_callP (va_runV (As := []) (rest := []) ⟨hx, hb, hml, hown, htb⟩ (c_By_length l q1) (x_cV 0 htb mw_177 mw_5 mw_180 mw_178 mw_179 rfl rfl (by decide +kernel) ⟨Nat.le_of_ble_eq_true rfl, Nat.le_of_ble_eq_true rfl⟩) (x_preV hK hN r1 rfl) rfl rfl hl.1 rfl (lv_room (Nat.le_of_ble_eq_true rfl)) d_Bd_path_37 ⟨Nat.le_of_ble_eq_true rfl, Nat.le_of_ble_eq_true rfl⟩) ?_
  refine W.eq (g2 := F0 m 40 ls [.int (nI S.1.length)]) rfl ?_
  exact x_iret hx hb hr hlocks rfl ⟨hd1.obj hc3 q5 q1, q3.trans hk2⟩ hL (Nat.le_refl _) (Nat.le_refl _) d_Bd_path_40
