/-- an operation as the reference holds it: which, to which sort and time, its entry -/
abbrev m_P : Type := Int32 × Int32 × Int32 × g_F
def m_ren (fs : List g_F) (i : Nat) (x y : Int32) : List g_F := match fs[i]? with
  | some g => fs.set i ((x, y, g.1.2.2), g.2)
  | none => fs
def m_act (fs : List g_F) (o : m_P) : List g_F :=
  if o.1 = 0 then (match g_find fs o.2.2.2.1 with
    | some i => fs.set i o.2.2.2
    | none => fs ++ [o.2.2.2])
  else if o.1 = 2 then (match g_find fs o.2.2.2.1 with
    | some i => m_drop fs i
    | none => fs)
  else if o.2.1 = o.2.2.2.1.1 ∧ o.2.2.1 = o.2.2.2.1.2.1 then fs
  else match g_find fs o.2.2.2.1 with
    | some i => (match g_find fs (o.2.1, o.2.2.1, o.2.2.2.1.2.2) with
      | some j => m_drop (m_ren fs i o.2.1 o.2.2.1) j
      | none => m_ren fs i o.2.1 o.2.2.1)
    | none => fs
/-- no entry from 60 on differs, nor any other row -/
def m_f60 (G G' : m_G) : Prop := (∀ e, 60 ≤ e → (∀ k, 3 ≤ k → k ≤ 6 → G' k e = G k e) ∧ (∀ k, k < 100 → G' 7 (100 * e + k) = G 7 (100 * e + k)) ∧ (∀ k, k < 400 → G' 8 (400 * e + k) = G 8 (400 * e + k))) ∧ ∀ k, (k < 3 ∨ 8 < k) → G' k = G k
theorem m_f60.refl {G : m_G} : m_f60 G G := ⟨fun _ _ => ⟨fun _ _ _ => rfl, fun _ _ => rfl, fun _ _ => rfl⟩, fun _ _ => rfl⟩
theorem m_f60.trans {G G1 G2 : m_G} (h : m_f60 G G1) (h2 : m_f60 G1 G2) : m_f60 G G2 := ⟨fun e he => ⟨fun k a b => ((h2.1 e he).1 k a b).trans ((h.1 e he).1 k a b), fun k a => ((h2.1 e he).2.1 k a).trans ((h.1 e he).2.1 k a), fun k a => ((h2.1 e he).2.2 k a).trans ((h.1 e he).2.2 k a)⟩, fun k a => (h2.2 k a).trans (h.2 k a)⟩
theorem m_fr.f60 {t : Nat} {G G' : m_G} (h : m_fr t G G') (ht : t < 60) : m_f60 G G' := ⟨fun e he => h.1 e (by omega), h.2⟩
theorem m_f60.e {e : Nat} {G G' : m_G} {f : g_F} (h : m_f60 G G') (he : 60 ≤ e) (hf : m_e G e f) : m_e G' e f := by
  obtain ⟨a, b, c⟩ := h.1 e he
  obtain ⟨⟨f1, f2⟩, ⟨f3, f4, f5, f6⟩, f7, f8, f9, f10⟩ := hf
  exact ⟨⟨(a 3 (by decide) (by decide)).trans f1, (a 4 (by decide) (by decide)).trans f2⟩, ⟨(a 5 (by decide) (by decide)).trans f3, f4, fun k hk => (b k (by omega)).trans (f5 k hk), f6⟩, (a 6 (by decide) (by decide)).trans f7, f8, fun k hk => (c k (by omega)).trans (f9 k hk), f10⟩
theorem m_f60.L {o : Nat} {G G' : m_G} {fs : List g_F} (h : m_f60 G G') (ho : 60 ≤ o) (hf : m_L G o fs) : m_L G' o fs := fun i f hi => h.e (by omega) (hf i f hi)
theorem m_L.set {G G' : m_G} {fs : List g_F} {i : Nat} {x : g_F} (h : m_L G 0 fs) (hfr : m_fr i G G') (hx : m_e G' i x) : m_L G' 0 (fs.set i x) := fun j f hj => by
  rw [List.getElem?_set] at hj
  split at hj
  · rename_i e
    split at hj
    · cases hj
      rw [← e]
      exact hx
    · cases hj
  · rename_i e
    exact hfr.e (fun q => e q.symm) (h j f hj)
theorem m_L.app {G G' : m_G} {fs : List g_F} {x : g_F} (h : m_L G 0 fs) (hfr : m_fr fs.length G G') (hx : m_e G' fs.length x) : m_L G' 0 (fs ++ [x]) := fun j f hj => by
  rcases Nat.lt_or_ge j fs.length with q | q
  · rw [List.getElem?_append_left q] at hj
    exact hfr.e (by omega) (h j f hj)
  · rw [List.getElem?_append_right q] at hj
    have h3 : j - fs.length = 0 := by
      have := (List.getElem?_eq_some_iff.mp hj).1
      simp at this
      exact this
    rw [h3] at hj
    cases hj
    have h4 : j = fs.length := by omega
    rw [h4]
    exact hx
theorem m_e.ren {G G1 G2 : m_G} {i : Nat} {g : g_F} {x y : Int32} (h : m_e G i g) (e1 : G1 = m_up G 3 (upd (G 3) i x)) (e2 : G2 = m_up G1 4 (upd (G1 4) i y)) : m_e G2 i ((x, y, g.1.2.2), g.2) ∧ m_fr i G G2 := by
  have a3 : G2 3 i = x := by rw [e2, m_up_ne _ _ (by decide), e1, m_up_self, pk_us]
  have a4 : G2 4 i = y := by rw [e2, m_up_self, pk_us]
  have au : ∀ k, k ≠ 3 → k ≠ 4 → G2 k = G k := fun k h3 h4 => by rw [e2, m_up_ne _ _ h4, e1, m_up_ne _ _ h3]
  refine ⟨⟨⟨a3, a4⟩, ⟨(congrFun (au 5 (by decide) (by decide)) i).trans h.2.1.1, h.2.1.2.1, fun k hk => (congrFun (au 7 (by decide) (by decide)) _).trans (h.2.1.2.2.1 k hk), h.2.1.2.2.2⟩, (congrFun (au 6 (by decide) (by decide)) i).trans h.2.2.1, h.2.2.2.1, fun k hk => (congrFun (au 8 (by decide) (by decide)) _).trans (h.2.2.2.2.1 k hk), h.2.2.2.2.2⟩, ?_⟩
  rw [e2]
  refine m_fr.trans ?_ (m_fr.set (by decide) (by decide))
  rw [e1]
  exact m_fr.set (by decide) (by decide)
theorem m_ren_some {fs : List g_F} {i : Nat} {g : g_F} (h : fs[i]? = some g) (x y : Int32) : m_ren fs i x y = fs.set i ((x, y, g.1.2.2), g.2) := by
  unfold m_ren
  rw [h]
theorem m_ren_len {fs : List g_F} {i : Nat} {x y : Int32} : (m_ren fs i x y).length = fs.length := by
  unfold m_ren
  split
  · exact List.length_set
  · rfl
theorem m_setlen {fs : List g_F} {i : Nat} {x : g_F} : nI (fs.set i x).length = nI fs.length := by rw [List.length_set]

set_option maxHeartbeats 4000000 in
set_option maxRecDepth 100000 in
theorem c_Mo_actW0 (l : Launch) {D : va_G} {A : Nat → ClassId} {H0 : Heap} {b : Nat} {v0 v1 v2 v4 v5 v6 v7 : Int32} {G : m_G} {fs : List g_F} (ho : m_O D b v0 v1 v2 (nI fs.length) v4 v5 v6 v7 H0) (hR : m_R D A b G H0) {k : Nat} {o : m_P} (hfl : fs.length ≤ 60) (hfs : m_L G 0 fs) (hk : k < 200) (o1 : G 9 k = o.1) (o2 : G 10 k = o.2.1) (o3 : G 11 k = o.2.2.1) (o4 : m_e G (120 + k) o.2.2.2) (hw : o.1 = 0) (hg : g_find fs o.2.2.2.1 = none) (hlt : fs.length < 60) : Met l y_Mo_act w_Mo_act { frames := 2, cells := 0, slots := 0, locals := 48 } (x_Pc D A [.ref b, .int (nI k)] H0) (x_Q none (fun H1 => ∃ G1 : m_G, m_O D b v0 v1 v2 (nI (fs ++ [o.2.2.2]).length) v4 v5 v6 v7 H1 ∧ m_R D A b G1 H1 ∧ m_K b H0 H1 ∧ m_L G1 0 (fs ++ [o.2.2.2]) ∧ m_f60 G G1)) 0 0 (m_fq b) := by
  refine Met.ofW (cc := prog_10_method_10_code) (maxL := 5) (ret := none) (by decide) rfl ?_
  intro p e s m args below meth c s₁ B hml hv
  obtain ⟨rfl, hH, hK, hN⟩ := hv
  obtain ⟨hx, hb, hr, htb, hown, hlocks⟩ := x_start (wd := Cond.code y_Mo_act prog_10_method_10_code 5 none) B
  have hl := lv_entry ([.ref b, .int (nI k)]) (n := 5) (Nat.le_of_ble_eq_true rfl)
  rw [lg_entry_eq]
  generalize (lg_sl ([.ref b, .int (nI k)]) ++ List.replicate (5 - (lg_sl ([.ref b, .int (nI k)])).length) Slot.unset).toArray = ls at hl ⊢
  have hl : lv_has ls 5 [(0, .ref b), (1, .int (nI k))] := hl
  rw [hH]
  have hM : m_K b H0 H0 := m_K.refl
  have hL : ∀ q ∈ ([] : List Loc), m_fq b q.base := fun q hq => by cases hq
  refine lv_bipush (v := 120) hx hb d_Mo_act_0 (by decide) ?_
  refine lv_iload_n hx hb d_Mo_act_2 rfl (lv_at hl 1 rfl) ?_
  refine lv_iadd hx hb d_Mo_act_3 ?_
  refine x_top (y := nI (120 + k)) (nI_add 120 k) ?_
  refine lv_istore_n (lv' := [(2, .int (nI (120 + k))), (0, .ref b), (1, .int (nI k))]) hx hb d_Mo_act_4 rfl hl (by decide) rfl (fun ls hl => ?_)
  refine lv_aload_n hx hb d_Mo_act_5 rfl (lv_at hl 1 rfl) ?_
  refine lv_aload_n hx hb d_Mo_act_6 rfl (lv_at hl 1 rfl) ?_
  refine x_get (ci := 8) (T := T_Mo) hx hb htb u_Mo hown hK ho rfl 5 (by decide) (htb _ mw_468) (fun _ h9 => h9) (v := .ref (b + 3)) rfl d_Mo_act_7 ?_
  refine lv_iload_n hx hb d_Mo_act_10 rfl (lv_at hl 0 rfl) ?_
  refine m_ild hx hb hK hR 3 (by decide) (by decide) rfl (i := 120 + k) (show _ < 320 by omega) d_Mo_act_11 ?_
  refine x_top (y := o.2.2.2.1.1) (o4.1.1) ?_
  refine lv_aload_n hx hb d_Mo_act_12 rfl (lv_at hl 1 rfl) ?_
  refine x_get (ci := 8) (T := T_Mo) hx hb htb u_Mo hown hK ho rfl 6 (by decide) (htb _ mw_469) (fun _ h9 => h9) (v := .ref (b + 4)) rfl d_Mo_act_13 ?_
  refine lv_iload_n hx hb d_Mo_act_16 rfl (lv_at hl 0 rfl) ?_
  refine m_ild hx hb hK hR 4 (by decide) (by decide) rfl (i := 120 + k) (show _ < 320 by omega) d_Mo_act_17 ?_
  refine x_top (y := o.2.2.2.1.2.1) (o4.1.2) ?_
  refine lv_iload_n hx hb d_Mo_act_18 rfl (lv_at hl 0 rfl) ?_
  refine x_callP (va_runV (As := [.int o.2.2.2.1.1, .int o.2.2.2.1.2.1, .int (nI (120 + k))]) (rest := []) ⟨hx, hb, hml, hown, htb⟩ (c_Mo_find l ho hR (n := o.2.2.2.1) hfl hfs (by omega) o4 rfl) (x_cV 3 htb mw_573 mw_6 mw_576 mw_575 ms_13 rfl rfl (by decide +kernel) ⟨Nat.le_of_ble_eq_true rfl, Nat.le_of_ble_eq_true rfl⟩) (x_preV hK hN ho rfl) rfl rfl hl.1 rfl (lv_room (Nat.le_of_ble_eq_true rfl)) d_Mo_act_19 ⟨Nat.le_of_ble_eq_true rfl, Nat.le_of_ble_eq_true rfl⟩) ?_
  refine W.eq (g2 := F0 m 22 ls [.int (g_ixv (g_find fs o.2.2.2.1))]) rfl ?_
  refine x_top (y := (-1)) (congrArg g_ixv hg) ?_
  refine lv_istore_n (lv' := [(3, .int (-1)), (2, .int (nI (120 + k))), (0, .ref b), (1, .int (nI k))]) hx hb d_Mo_act_22 rfl hl (by decide) rfl (fun ls hl => ?_)
  refine lv_aload_n hx hb d_Mo_act_23 rfl (lv_at hl 2 rfl) ?_
  refine x_get (ci := 8) (T := T_Mo) hx hb htb u_Mo hown hK ho rfl 15 (by decide) (htb _ mw_478) (fun _ h9 => h9) (v := .ref (b + 9)) rfl d_Mo_act_24 ?_
  refine lv_iload_n hx hb d_Mo_act_27 rfl (lv_at hl 3 rfl) ?_
  refine m_ild hx hb hK hR 9 (by decide) (by decide) rfl (i := k) (show _ < 200 by omega) d_Mo_act_28 ?_
  refine x_top (y := o.1) (o1) ?_
  refine lv_if_ne (tgt := 61) hx hb d_Mo_act_29 (by decide) (fun c9 => absurd hw c9) (fun _ => ?_)
  refine lv_iload_n hx hb d_Mo_act_32 rfl (lv_at hl 0 rfl) ?_
  refine lv_iconst (v := (-1)) hx hb d_Mo_act_33 (by decide) ?_
  refine lv_icmp_ne (tgt := 52) hx hb d_Mo_act_34 (by decide) (fun c9 => absurd rfl c9) (fun _ => ?_)
  refine lv_aload_n hx hb d_Mo_act_37 rfl (lv_at hl 2 rfl) ?_
  refine x_get (ci := 8) (T := T_Mo) hx hb htb u_Mo hown hK ho rfl 11 (by decide) (htb _ mw_474) (fun _ h9 => h9) (v := .int (nI fs.length)) rfl d_Mo_act_38 ?_
  refine lv_istore_n (lv' := [(3, .int (nI fs.length)), (2, .int (nI (120 + k))), (0, .ref b), (1, .int (nI k))]) hx hb d_Mo_act_41 rfl hl (by decide) rfl (fun ls hl => ?_)
  refine lv_aload_n hx hb d_Mo_act_42 rfl (lv_at hl 2 rfl) ?_
  refine lv_dup hx hb d_Mo_act_43 rfl ?_
  refine x_get (ci := 8) (T := T_Mo) hx hb htb u_Mo hown hK ho rfl 11 (by decide) (htb _ mw_474) (fun _ h9 => h9) (v := .int (nI fs.length)) rfl d_Mo_act_44 ?_
  refine lv_iconst (v := 1) hx hb d_Mo_act_47 (by decide) ?_
  refine lv_iadd hx hb d_Mo_act_48 ?_
  refine x_top (y := nI (fs.length + 1)) (nI_1 _) ?_
  refine x_put (F := m_fq b) (ci := 8) (v := .int (nI (fs.length + 1))) (ty := .int) (T := T_Mo) hx hb htb u_Mo t_Mo t_Mo_ok n_Mo hown hK ho hL ⟨Nat.le_refl _, Nat.le_add_right _ _⟩ rfl 11 (by decide) (htb _ mw_474) (fun _ h9 => h9) rfl (by decide +kernel) rfl rfl (Nat.le_of_ble_eq_true rfl) d_Mo_act_49 (fun H1 locs hf1 hc2 hL => ?_)
  have hf1 : va_at D x_cl (b, .inr (8, [.int v0, .ref (b + 1), .ref (b + 2), .int v1, .int v2, .ref (b + 3), .ref (b + 4), .ref (b + 5), .ref (b + 6), .ref (b + 7), .ref (b + 8), .int (nI (fs.length + 1)), .int v4, .int v5, .int v6, .ref (b + 9), .ref (b + 10), .ref (b + 11), .int v7, .ref (b + 12), .ref (b + 13), .ref (b + 14), .ref (b + 15)])) H1 := hf1
  have ho : m_O D b v0 v1 v2 (nI (fs.length + 1)) v4 v5 v6 v7 H1 := hf1
  have hR := hR.but0 hc2
  have hM := hM.trans (m_K.but0 hc2)
  refine lv_aload_n hx hb d_Mo_act_52 rfl (lv_at hl 2 rfl) ?_
  refine lv_iload_n hx hb d_Mo_act_53 rfl (lv_at hl 1 rfl) ?_
  refine lv_iload_n hx hb d_Mo_act_54 rfl (lv_at hl 0 rfl) ?_
  refine x_call (F := m_fq b) (va_runV (As := [.int (nI (120 + k)), .int (nI fs.length)]) (rest := []) ⟨hx, hb, hml, hown, htb⟩ (c_Mo_copy l ho hR (i := 120 + k) (j := fs.length) (by omega) (by omega) (by omega) o4) (x_cV 2 htb mw_581 mw_6 mw_584 mw_583 ms_15 rfl rfl (by decide +kernel) ⟨Nat.le_of_ble_eq_true rfl, Nat.le_of_ble_eq_true rfl⟩) (x_preV hK hN ho rfl) rfl rfl hl.1 rfl (lv_room (Nat.le_of_ble_eq_true rfl)) d_Mo_act_55 ⟨Nat.le_of_ble_eq_true rfl, Nat.le_of_ble_eq_true rfl⟩) hL (fun q hq => hq) (fun H2 locs hP hL => ?_)
  refine W.eq (g2 := F0 m 58 ls []) rfl ?_
  obtain ⟨G1, q1, q2, q3, q4, q5⟩ := hP
  refine lv_goto (tgt := 164) hx hb d_Mo_act_58 (by decide) ?_
  exact x_vret hx hb hr hlocks ⟨G1, by rw [List.length_append]; exact q1, q2, hM.trans q3, hfs.app q5 q4, q5.f60 hlt⟩ hL (Nat.le_refl _) (Nat.le_refl _) d_Mo_act_164
theorem m_nm1 {n : Nat} (h : n < 2 ^ 31) : ¬ nI n = -1 := fun e => absurd (show nI n < 0 by rw [e]; decide) (nI_pos h)
set_option maxHeartbeats 4000000 in
set_option maxRecDepth 100000 in
theorem c_Mo_actW1 (l : Launch) {D : va_G} {A : Nat → ClassId} {H0 : Heap} {b : Nat} {v0 v1 v2 v4 v5 v6 v7 : Int32} {G : m_G} {fs : List g_F} (ho : m_O D b v0 v1 v2 (nI fs.length) v4 v5 v6 v7 H0) (hR : m_R D A b G H0) {k : Nat} {o : m_P} (hfl : fs.length ≤ 60) (hfs : m_L G 0 fs) (hk : k < 200) (o1 : G 9 k = o.1) (o2 : G 10 k = o.2.1) (o3 : G 11 k = o.2.2.1) (o4 : m_e G (120 + k) o.2.2.2) (hw : o.1 = 0) {i : Nat} (hg : g_find fs o.2.2.2.1 = some i) : Met l y_Mo_act w_Mo_act { frames := 2, cells := 0, slots := 0, locals := 48 } (x_Pc D A [.ref b, .int (nI k)] H0) (x_Q none (fun H1 => ∃ G1 : m_G, m_O D b v0 v1 v2 (nI (fs.set i o.2.2.2).length) v4 v5 v6 v7 H1 ∧ m_R D A b G1 H1 ∧ m_K b H0 H1 ∧ m_L G1 0 (fs.set i o.2.2.2) ∧ m_f60 G G1)) 0 0 (m_fq b) := by
  refine Met.ofW (cc := prog_10_method_10_code) (maxL := 5) (ret := none) (by decide) rfl ?_
  intro p e s m args below meth c s₁ B hml hv
  obtain ⟨rfl, hH, hK, hN⟩ := hv
  obtain ⟨hx, hb, hr, htb, hown, hlocks⟩ := x_start (wd := Cond.code y_Mo_act prog_10_method_10_code 5 none) B
  have hl := lv_entry ([.ref b, .int (nI k)]) (n := 5) (Nat.le_of_ble_eq_true rfl)
  rw [lg_entry_eq]
  generalize (lg_sl ([.ref b, .int (nI k)]) ++ List.replicate (5 - (lg_sl ([.ref b, .int (nI k)])).length) Slot.unset).toArray = ls at hl ⊢
  have hl : lv_has ls 5 [(0, .ref b), (1, .int (nI k))] := hl
  rw [hH]
  have hM : m_K b H0 H0 := m_K.refl
  have hL : ∀ q ∈ ([] : List Loc), m_fq b q.base := fun q hq => by cases hq
  refine lv_bipush (v := 120) hx hb d_Mo_act_0 (by decide) ?_
  refine lv_iload_n hx hb d_Mo_act_2 rfl (lv_at hl 1 rfl) ?_
  refine lv_iadd hx hb d_Mo_act_3 ?_
  refine x_top (y := nI (120 + k)) (nI_add 120 k) ?_
  refine lv_istore_n (lv' := [(2, .int (nI (120 + k))), (0, .ref b), (1, .int (nI k))]) hx hb d_Mo_act_4 rfl hl (by decide) rfl (fun ls hl => ?_)
  refine lv_aload_n hx hb d_Mo_act_5 rfl (lv_at hl 1 rfl) ?_
  refine lv_aload_n hx hb d_Mo_act_6 rfl (lv_at hl 1 rfl) ?_
  refine x_get (ci := 8) (T := T_Mo) hx hb htb u_Mo hown hK ho rfl 5 (by decide) (htb _ mw_468) (fun _ h9 => h9) (v := .ref (b + 3)) rfl d_Mo_act_7 ?_
  refine lv_iload_n hx hb d_Mo_act_10 rfl (lv_at hl 0 rfl) ?_
  refine m_ild hx hb hK hR 3 (by decide) (by decide) rfl (i := 120 + k) (show _ < 320 by omega) d_Mo_act_11 ?_
  refine x_top (y := o.2.2.2.1.1) (o4.1.1) ?_
  refine lv_aload_n hx hb d_Mo_act_12 rfl (lv_at hl 1 rfl) ?_
  refine x_get (ci := 8) (T := T_Mo) hx hb htb u_Mo hown hK ho rfl 6 (by decide) (htb _ mw_469) (fun _ h9 => h9) (v := .ref (b + 4)) rfl d_Mo_act_13 ?_
  refine lv_iload_n hx hb d_Mo_act_16 rfl (lv_at hl 0 rfl) ?_
  refine m_ild hx hb hK hR 4 (by decide) (by decide) rfl (i := 120 + k) (show _ < 320 by omega) d_Mo_act_17 ?_
  refine x_top (y := o.2.2.2.1.2.1) (o4.1.2) ?_
  refine lv_iload_n hx hb d_Mo_act_18 rfl (lv_at hl 0 rfl) ?_
  refine x_callP (va_runV (As := [.int o.2.2.2.1.1, .int o.2.2.2.1.2.1, .int (nI (120 + k))]) (rest := []) ⟨hx, hb, hml, hown, htb⟩ (c_Mo_find l ho hR (n := o.2.2.2.1) hfl hfs (by omega) o4 rfl) (x_cV 3 htb mw_573 mw_6 mw_576 mw_575 ms_13 rfl rfl (by decide +kernel) ⟨Nat.le_of_ble_eq_true rfl, Nat.le_of_ble_eq_true rfl⟩) (x_preV hK hN ho rfl) rfl rfl hl.1 rfl (lv_room (Nat.le_of_ble_eq_true rfl)) d_Mo_act_19 ⟨Nat.le_of_ble_eq_true rfl, Nat.le_of_ble_eq_true rfl⟩) ?_
  refine W.eq (g2 := F0 m 22 ls [.int (g_ixv (g_find fs o.2.2.2.1))]) rfl ?_
  have hi := g_find_lt hg
  refine x_top (y := nI i) (congrArg g_ixv hg) ?_
  refine lv_istore_n (lv' := [(3, .int (nI i)), (2, .int (nI (120 + k))), (0, .ref b), (1, .int (nI k))]) hx hb d_Mo_act_22 rfl hl (by decide) rfl (fun ls hl => ?_)
  refine lv_aload_n hx hb d_Mo_act_23 rfl (lv_at hl 2 rfl) ?_
  refine x_get (ci := 8) (T := T_Mo) hx hb htb u_Mo hown hK ho rfl 15 (by decide) (htb _ mw_478) (fun _ h9 => h9) (v := .ref (b + 9)) rfl d_Mo_act_24 ?_
  refine lv_iload_n hx hb d_Mo_act_27 rfl (lv_at hl 3 rfl) ?_
  refine m_ild hx hb hK hR 9 (by decide) (by decide) rfl (i := k) (show _ < 200 by omega) d_Mo_act_28 ?_
  refine x_top (y := o.1) (o1) ?_
  refine lv_if_ne (tgt := 61) hx hb d_Mo_act_29 (by decide) (fun c9 => absurd hw c9) (fun _ => ?_)
  refine lv_iload_n hx hb d_Mo_act_32 rfl (lv_at hl 0 rfl) ?_
  refine lv_iconst (v := (-1)) hx hb d_Mo_act_33 (by decide) ?_
  refine lv_icmp_ne (tgt := 52) hx hb d_Mo_act_34 (by decide) (fun _ => ?_) (fun c9 => absurd c9 (m_nm1 (by omega)))
  refine lv_aload_n hx hb d_Mo_act_52 rfl (lv_at hl 2 rfl) ?_
  refine lv_iload_n hx hb d_Mo_act_53 rfl (lv_at hl 1 rfl) ?_
  refine lv_iload_n hx hb d_Mo_act_54 rfl (lv_at hl 0 rfl) ?_
  refine x_call (F := m_fq b) (va_runV (As := [.int (nI (120 + k)), .int (nI i)]) (rest := []) ⟨hx, hb, hml, hown, htb⟩ (c_Mo_copy l ho hR (i := 120 + k) (j := i) (by omega) (by omega) (by omega) o4) (x_cV 2 htb mw_581 mw_6 mw_584 mw_583 ms_15 rfl rfl (by decide +kernel) ⟨Nat.le_of_ble_eq_true rfl, Nat.le_of_ble_eq_true rfl⟩) (x_preV hK hN ho rfl) rfl rfl hl.1 rfl (lv_room (Nat.le_of_ble_eq_true rfl)) d_Mo_act_55 ⟨Nat.le_of_ble_eq_true rfl, Nat.le_of_ble_eq_true rfl⟩) hL (fun q hq => hq) (fun H2 locs hP hL => ?_)
  refine W.eq (g2 := F0 m 58 ls []) rfl ?_
  obtain ⟨G1, q1, q2, q3, q4, q5⟩ := hP
  refine lv_goto (tgt := 164) hx hb d_Mo_act_58 (by decide) ?_
  exact x_vret hx hb hr hlocks ⟨G1, by rw [List.length_set]; exact q1, q2, hM.trans q3, hfs.set q5 q4, q5.f60 (by omega)⟩ hL (Nat.le_refl _) (Nat.le_refl _) d_Mo_act_164
set_option maxHeartbeats 4000000 in
set_option maxRecDepth 100000 in
theorem c_Mo_actD (l : Launch) {D : va_G} {A : Nat → ClassId} {H0 : Heap} {b : Nat} {v0 v1 v2 v4 v5 v6 v7 : Int32} {G : m_G} {fs : List g_F} (ho : m_O D b v0 v1 v2 (nI fs.length) v4 v5 v6 v7 H0) (hR : m_R D A b G H0) {k : Nat} {o : m_P} (hfl : fs.length ≤ 60) (hfs : m_L G 0 fs) (hk : k < 200) (o1 : G 9 k = o.1) (o2 : G 10 k = o.2.1) (o3 : G 11 k = o.2.2.1) (o4 : m_e G (120 + k) o.2.2.2) (hw : o.1 = 2) {i : Nat} (hg : g_find fs o.2.2.2.1 = some i) : Met l y_Mo_act w_Mo_act { frames := 2, cells := 0, slots := 0, locals := 48 } (x_Pc D A [.ref b, .int (nI k)] H0) (x_Q none (fun H1 => ∃ G1 : m_G, m_O D b v0 v1 v2 (nI (m_drop fs i).length) v4 v5 v6 v7 H1 ∧ m_R D A b G1 H1 ∧ m_K b H0 H1 ∧ m_L G1 0 (m_drop fs i) ∧ m_f60 G G1)) 0 0 (m_fq b) := by
  refine Met.ofW (cc := prog_10_method_10_code) (maxL := 5) (ret := none) (by decide) rfl ?_
  intro p e s m args below meth c s₁ B hml hv
  obtain ⟨rfl, hH, hK, hN⟩ := hv
  obtain ⟨hx, hb, hr, htb, hown, hlocks⟩ := x_start (wd := Cond.code y_Mo_act prog_10_method_10_code 5 none) B
  have hl := lv_entry ([.ref b, .int (nI k)]) (n := 5) (Nat.le_of_ble_eq_true rfl)
  rw [lg_entry_eq]
  generalize (lg_sl ([.ref b, .int (nI k)]) ++ List.replicate (5 - (lg_sl ([.ref b, .int (nI k)])).length) Slot.unset).toArray = ls at hl ⊢
  have hl : lv_has ls 5 [(0, .ref b), (1, .int (nI k))] := hl
  rw [hH]
  have hM : m_K b H0 H0 := m_K.refl
  have hL : ∀ q ∈ ([] : List Loc), m_fq b q.base := fun q hq => by cases hq
  refine lv_bipush (v := 120) hx hb d_Mo_act_0 (by decide) ?_
  refine lv_iload_n hx hb d_Mo_act_2 rfl (lv_at hl 1 rfl) ?_
  refine lv_iadd hx hb d_Mo_act_3 ?_
  refine x_top (y := nI (120 + k)) (nI_add 120 k) ?_
  refine lv_istore_n (lv' := [(2, .int (nI (120 + k))), (0, .ref b), (1, .int (nI k))]) hx hb d_Mo_act_4 rfl hl (by decide) rfl (fun ls hl => ?_)
  refine lv_aload_n hx hb d_Mo_act_5 rfl (lv_at hl 1 rfl) ?_
  refine lv_aload_n hx hb d_Mo_act_6 rfl (lv_at hl 1 rfl) ?_
  refine x_get (ci := 8) (T := T_Mo) hx hb htb u_Mo hown hK ho rfl 5 (by decide) (htb _ mw_468) (fun _ h9 => h9) (v := .ref (b + 3)) rfl d_Mo_act_7 ?_
  refine lv_iload_n hx hb d_Mo_act_10 rfl (lv_at hl 0 rfl) ?_
  refine m_ild hx hb hK hR 3 (by decide) (by decide) rfl (i := 120 + k) (show _ < 320 by omega) d_Mo_act_11 ?_
  refine x_top (y := o.2.2.2.1.1) (o4.1.1) ?_
  refine lv_aload_n hx hb d_Mo_act_12 rfl (lv_at hl 1 rfl) ?_
  refine x_get (ci := 8) (T := T_Mo) hx hb htb u_Mo hown hK ho rfl 6 (by decide) (htb _ mw_469) (fun _ h9 => h9) (v := .ref (b + 4)) rfl d_Mo_act_13 ?_
  refine lv_iload_n hx hb d_Mo_act_16 rfl (lv_at hl 0 rfl) ?_
  refine m_ild hx hb hK hR 4 (by decide) (by decide) rfl (i := 120 + k) (show _ < 320 by omega) d_Mo_act_17 ?_
  refine x_top (y := o.2.2.2.1.2.1) (o4.1.2) ?_
  refine lv_iload_n hx hb d_Mo_act_18 rfl (lv_at hl 0 rfl) ?_
  refine x_callP (va_runV (As := [.int o.2.2.2.1.1, .int o.2.2.2.1.2.1, .int (nI (120 + k))]) (rest := []) ⟨hx, hb, hml, hown, htb⟩ (c_Mo_find l ho hR (n := o.2.2.2.1) hfl hfs (by omega) o4 rfl) (x_cV 3 htb mw_573 mw_6 mw_576 mw_575 ms_13 rfl rfl (by decide +kernel) ⟨Nat.le_of_ble_eq_true rfl, Nat.le_of_ble_eq_true rfl⟩) (x_preV hK hN ho rfl) rfl rfl hl.1 rfl (lv_room (Nat.le_of_ble_eq_true rfl)) d_Mo_act_19 ⟨Nat.le_of_ble_eq_true rfl, Nat.le_of_ble_eq_true rfl⟩) ?_
  refine W.eq (g2 := F0 m 22 ls [.int (g_ixv (g_find fs o.2.2.2.1))]) rfl ?_
  have hi := g_find_lt hg
  refine x_top (y := nI i) (congrArg g_ixv hg) ?_
  refine lv_istore_n (lv' := [(3, .int (nI i)), (2, .int (nI (120 + k))), (0, .ref b), (1, .int (nI k))]) hx hb d_Mo_act_22 rfl hl (by decide) rfl (fun ls hl => ?_)
  refine lv_aload_n hx hb d_Mo_act_23 rfl (lv_at hl 2 rfl) ?_
  refine x_get (ci := 8) (T := T_Mo) hx hb htb u_Mo hown hK ho rfl 15 (by decide) (htb _ mw_478) (fun _ h9 => h9) (v := .ref (b + 9)) rfl d_Mo_act_24 ?_
  refine lv_iload_n hx hb d_Mo_act_27 rfl (lv_at hl 3 rfl) ?_
  refine m_ild hx hb hK hR 9 (by decide) (by decide) rfl (i := k) (show _ < 200 by omega) d_Mo_act_28 ?_
  refine x_top (y := o.1) (o1) ?_
  refine lv_if_ne (tgt := 61) hx hb d_Mo_act_29 (by decide) (fun _ => ?_) (fun c9 => absurd c9 (by rw [hw]; decide))
  refine lv_aload_n hx hb d_Mo_act_61 rfl (lv_at hl 2 rfl) ?_
  refine x_get (ci := 8) (T := T_Mo) hx hb htb u_Mo hown hK ho rfl 15 (by decide) (htb _ mw_478) (fun _ h9 => h9) (v := .ref (b + 9)) rfl d_Mo_act_62 ?_
  refine lv_iload_n hx hb d_Mo_act_65 rfl (lv_at hl 3 rfl) ?_
  refine m_ild hx hb hK hR 9 (by decide) (by decide) rfl (i := k) (show _ < 200 by omega) d_Mo_act_66 ?_
  refine x_top (y := o.1) (o1) ?_
  refine lv_iconst (v := 2) hx hb d_Mo_act_67 (by decide) ?_
  refine lv_icmp_ne (tgt := 79) hx hb d_Mo_act_68 (by decide) (fun c9 => absurd hw c9) (fun _ => ?_)
  refine lv_aload_n hx hb d_Mo_act_71 rfl (lv_at hl 2 rfl) ?_
  refine lv_iload_n hx hb d_Mo_act_72 rfl (lv_at hl 0 rfl) ?_
  refine x_call (F := m_fq b) (va_runV (As := [.int (nI i)]) (rest := []) ⟨hx, hb, hml, hown, htb⟩ (c_Mo_drop l ho hR (k := i) hfl hfs hi) (x_cV 1 htb mw_585 mw_6 mw_588 mw_587 ms_16 rfl rfl (by decide +kernel) ⟨Nat.le_of_ble_eq_true rfl, Nat.le_of_ble_eq_true rfl⟩) (x_preV hK hN ho rfl) rfl rfl hl.1 rfl (lv_room (Nat.le_of_ble_eq_true rfl)) d_Mo_act_73 ⟨Nat.le_of_ble_eq_true rfl, Nat.le_of_ble_eq_true rfl⟩) hL (fun q hq => hq) (fun H2 locs hP hL => ?_)
  refine W.eq (g2 := F0 m 76 ls []) rfl ?_
  obtain ⟨G1, q1, q2, q3, q4, q5⟩ := hP
  refine lv_goto (tgt := 164) hx hb d_Mo_act_76 (by decide) ?_
  exact x_vret hx hb hr hlocks ⟨G1, by rw [m_drop_len (by omega)]; exact q1, q2, hM.trans q3, q4, q5.f60 (by omega)⟩ hL (Nat.le_refl _) (Nat.le_refl _) d_Mo_act_164
set_option maxHeartbeats 4000000 in
set_option maxRecDepth 100000 in
theorem c_Mo_actR0 (l : Launch) {D : va_G} {A : Nat → ClassId} {H0 : Heap} {b : Nat} {v0 v1 v2 v4 v5 v6 v7 : Int32} {G : m_G} {fs : List g_F} (ho : m_O D b v0 v1 v2 (nI fs.length) v4 v5 v6 v7 H0) (hR : m_R D A b G H0) {k : Nat} {o : m_P} (hfl : fs.length ≤ 60) (hfs : m_L G 0 fs) (hk : k < 200) (o1 : G 9 k = o.1) (o2 : G 10 k = o.2.1) (o3 : G 11 k = o.2.2.1) (o4 : m_e G (120 + k) o.2.2.2) (hw0 : ¬ o.1 = 0) (hw2 : ¬ o.1 = 2) {i : Nat} (hg : g_find fs o.2.2.2.1 = some i) (hs : o.2.1 = o.2.2.2.1.1 ∧ o.2.2.1 = o.2.2.2.1.2.1) : Met l y_Mo_act w_Mo_act { frames := 2, cells := 0, slots := 0, locals := 48 } (x_Pc D A [.ref b, .int (nI k)] H0) (x_Q none (fun H1 => ∃ G1 : m_G, m_O D b v0 v1 v2 (nI fs.length) v4 v5 v6 v7 H1 ∧ m_R D A b G1 H1 ∧ m_K b H0 H1 ∧ m_L G1 0 fs ∧ m_f60 G G1)) 0 0 (m_fq b) := by
  refine Met.ofW (cc := prog_10_method_10_code) (maxL := 5) (ret := none) (by decide) rfl ?_
  intro p e s m args below meth c s₁ B hml hv
  obtain ⟨rfl, hH, hK, hN⟩ := hv
  obtain ⟨hx, hb, hr, htb, hown, hlocks⟩ := x_start (wd := Cond.code y_Mo_act prog_10_method_10_code 5 none) B
  have hl := lv_entry ([.ref b, .int (nI k)]) (n := 5) (Nat.le_of_ble_eq_true rfl)
  rw [lg_entry_eq]
  generalize (lg_sl ([.ref b, .int (nI k)]) ++ List.replicate (5 - (lg_sl ([.ref b, .int (nI k)])).length) Slot.unset).toArray = ls at hl ⊢
  have hl : lv_has ls 5 [(0, .ref b), (1, .int (nI k))] := hl
  rw [hH]
  have hM : m_K b H0 H0 := m_K.refl
  have hL : ∀ q ∈ ([] : List Loc), m_fq b q.base := fun q hq => by cases hq
  refine lv_bipush (v := 120) hx hb d_Mo_act_0 (by decide) ?_
  refine lv_iload_n hx hb d_Mo_act_2 rfl (lv_at hl 1 rfl) ?_
  refine lv_iadd hx hb d_Mo_act_3 ?_
  refine x_top (y := nI (120 + k)) (nI_add 120 k) ?_
  refine lv_istore_n (lv' := [(2, .int (nI (120 + k))), (0, .ref b), (1, .int (nI k))]) hx hb d_Mo_act_4 rfl hl (by decide) rfl (fun ls hl => ?_)
  refine lv_aload_n hx hb d_Mo_act_5 rfl (lv_at hl 1 rfl) ?_
  refine lv_aload_n hx hb d_Mo_act_6 rfl (lv_at hl 1 rfl) ?_
  refine x_get (ci := 8) (T := T_Mo) hx hb htb u_Mo hown hK ho rfl 5 (by decide) (htb _ mw_468) (fun _ h9 => h9) (v := .ref (b + 3)) rfl d_Mo_act_7 ?_
  refine lv_iload_n hx hb d_Mo_act_10 rfl (lv_at hl 0 rfl) ?_
  refine m_ild hx hb hK hR 3 (by decide) (by decide) rfl (i := 120 + k) (show _ < 320 by omega) d_Mo_act_11 ?_
  refine x_top (y := o.2.2.2.1.1) (o4.1.1) ?_
  refine lv_aload_n hx hb d_Mo_act_12 rfl (lv_at hl 1 rfl) ?_
  refine x_get (ci := 8) (T := T_Mo) hx hb htb u_Mo hown hK ho rfl 6 (by decide) (htb _ mw_469) (fun _ h9 => h9) (v := .ref (b + 4)) rfl d_Mo_act_13 ?_
  refine lv_iload_n hx hb d_Mo_act_16 rfl (lv_at hl 0 rfl) ?_
  refine m_ild hx hb hK hR 4 (by decide) (by decide) rfl (i := 120 + k) (show _ < 320 by omega) d_Mo_act_17 ?_
  refine x_top (y := o.2.2.2.1.2.1) (o4.1.2) ?_
  refine lv_iload_n hx hb d_Mo_act_18 rfl (lv_at hl 0 rfl) ?_
  refine x_callP (va_runV (As := [.int o.2.2.2.1.1, .int o.2.2.2.1.2.1, .int (nI (120 + k))]) (rest := []) ⟨hx, hb, hml, hown, htb⟩ (c_Mo_find l ho hR (n := o.2.2.2.1) hfl hfs (by omega) o4 rfl) (x_cV 3 htb mw_573 mw_6 mw_576 mw_575 ms_13 rfl rfl (by decide +kernel) ⟨Nat.le_of_ble_eq_true rfl, Nat.le_of_ble_eq_true rfl⟩) (x_preV hK hN ho rfl) rfl rfl hl.1 rfl (lv_room (Nat.le_of_ble_eq_true rfl)) d_Mo_act_19 ⟨Nat.le_of_ble_eq_true rfl, Nat.le_of_ble_eq_true rfl⟩) ?_
  refine W.eq (g2 := F0 m 22 ls [.int (g_ixv (g_find fs o.2.2.2.1))]) rfl ?_
  have hi := g_find_lt hg
  refine x_top (y := nI i) (congrArg g_ixv hg) ?_
  refine lv_istore_n (lv' := [(3, .int (nI i)), (2, .int (nI (120 + k))), (0, .ref b), (1, .int (nI k))]) hx hb d_Mo_act_22 rfl hl (by decide) rfl (fun ls hl => ?_)
  refine lv_aload_n hx hb d_Mo_act_23 rfl (lv_at hl 2 rfl) ?_
  refine x_get (ci := 8) (T := T_Mo) hx hb htb u_Mo hown hK ho rfl 15 (by decide) (htb _ mw_478) (fun _ h9 => h9) (v := .ref (b + 9)) rfl d_Mo_act_24 ?_
  refine lv_iload_n hx hb d_Mo_act_27 rfl (lv_at hl 3 rfl) ?_
  refine m_ild hx hb hK hR 9 (by decide) (by decide) rfl (i := k) (show _ < 200 by omega) d_Mo_act_28 ?_
  refine x_top (y := o.1) (o1) ?_
  refine lv_if_ne (tgt := 61) hx hb d_Mo_act_29 (by decide) (fun _ => ?_) (fun c9 => absurd c9 hw0)
  refine lv_aload_n hx hb d_Mo_act_61 rfl (lv_at hl 2 rfl) ?_
  refine x_get (ci := 8) (T := T_Mo) hx hb htb u_Mo hown hK ho rfl 15 (by decide) (htb _ mw_478) (fun _ h9 => h9) (v := .ref (b + 9)) rfl d_Mo_act_62 ?_
  refine lv_iload_n hx hb d_Mo_act_65 rfl (lv_at hl 3 rfl) ?_
  refine m_ild hx hb hK hR 9 (by decide) (by decide) rfl (i := k) (show _ < 200 by omega) d_Mo_act_66 ?_
  refine x_top (y := o.1) (o1) ?_
  refine lv_iconst (v := 2) hx hb d_Mo_act_67 (by decide) ?_
  refine lv_icmp_ne (tgt := 79) hx hb d_Mo_act_68 (by decide) (fun _ => ?_) (fun c9 => absurd c9 hw2)
  refine lv_aload_n hx hb d_Mo_act_79 rfl (lv_at hl 2 rfl) ?_
  refine x_get (ci := 8) (T := T_Mo) hx hb htb u_Mo hown hK ho rfl 16 (by decide) (htb _ mw_479) (fun _ h9 => h9) (v := .ref (b + 10)) rfl d_Mo_act_80 ?_
  refine lv_iload_n hx hb d_Mo_act_83 rfl (lv_at hl 3 rfl) ?_
  refine m_ild hx hb hK hR 10 (by decide) (by decide) rfl (i := k) (show _ < 200 by omega) d_Mo_act_84 ?_
  refine x_top (y := o.2.1) (o2) ?_
  refine lv_aload_n hx hb d_Mo_act_85 rfl (lv_at hl 2 rfl) ?_
  refine x_get (ci := 8) (T := T_Mo) hx hb htb u_Mo hown hK ho rfl 5 (by decide) (htb _ mw_468) (fun _ h9 => h9) (v := .ref (b + 3)) rfl d_Mo_act_86 ?_
  refine lv_iload_n hx hb d_Mo_act_89 rfl (lv_at hl 1 rfl) ?_
  refine m_ild hx hb hK hR 3 (by decide) (by decide) rfl (i := 120 + k) (show _ < 320 by omega) d_Mo_act_90 ?_
  refine x_top (y := o.2.2.2.1.1) (o4.1.1) ?_
  refine lv_icmp_ne (tgt := 109) hx hb d_Mo_act_91 (by decide) (fun c9 => absurd hs.1 c9) (fun _ => ?_)
  refine lv_aload_n hx hb d_Mo_act_94 rfl (lv_at hl 2 rfl) ?_
  refine x_get (ci := 8) (T := T_Mo) hx hb htb u_Mo hown hK ho rfl 17 (by decide) (htb _ mw_480) (fun _ h9 => h9) (v := .ref (b + 11)) rfl d_Mo_act_95 ?_
  refine lv_iload_n hx hb d_Mo_act_98 rfl (lv_at hl 3 rfl) ?_
  refine m_ild hx hb hK hR 11 (by decide) (by decide) rfl (i := k) (show _ < 200 by omega) d_Mo_act_99 ?_
  refine x_top (y := o.2.2.1) (o3) ?_
  refine lv_aload_n hx hb d_Mo_act_100 rfl (lv_at hl 2 rfl) ?_
  refine x_get (ci := 8) (T := T_Mo) hx hb htb u_Mo hown hK ho rfl 6 (by decide) (htb _ mw_469) (fun _ h9 => h9) (v := .ref (b + 4)) rfl d_Mo_act_101 ?_
  refine lv_iload_n hx hb d_Mo_act_104 rfl (lv_at hl 1 rfl) ?_
  refine m_ild hx hb hK hR 4 (by decide) (by decide) rfl (i := 120 + k) (show _ < 320 by omega) d_Mo_act_105 ?_
  refine x_top (y := o.2.2.2.1.2.1) (o4.1.2) ?_
  refine lv_icmp_eq (tgt := 164) hx hb d_Mo_act_106 (by decide) (fun _ => ?_) (fun c9 => absurd hs.2 c9)
  exact x_vret hx hb hr hlocks ⟨G, ho, hR, hM, hfs, m_f60.refl⟩ hL (Nat.le_refl _) (Nat.le_refl _) d_Mo_act_164
set_option maxHeartbeats 4000000 in
set_option maxRecDepth 100000 in
theorem c_Mo_actR1 (l : Launch) {D : va_G} {A : Nat → ClassId} {H0 : Heap} {b : Nat} {v0 v1 v2 v4 v5 v6 v7 : Int32} {G : m_G} {fs : List g_F} (ho : m_O D b v0 v1 v2 (nI fs.length) v4 v5 v6 v7 H0) (hR : m_R D A b G H0) {k : Nat} {o : m_P} (hfl : fs.length ≤ 60) (hfs : m_L G 0 fs) (hk : k < 200) (o1 : G 9 k = o.1) (o2 : G 10 k = o.2.1) (o3 : G 11 k = o.2.2.1) (o4 : m_e G (120 + k) o.2.2.2) (hw0 : ¬ o.1 = 0) (hw2 : ¬ o.1 = 2) {i : Nat} (hg : g_find fs o.2.2.2.1 = some i) (hs : ¬ (o.2.1 = o.2.2.2.1.1 ∧ o.2.2.1 = o.2.2.2.1.2.1)) (hj : g_find fs (o.2.1, o.2.2.1, o.2.2.2.1.2.2) = none) : Met l y_Mo_act w_Mo_act { frames := 2, cells := 0, slots := 0, locals := 48 } (x_Pc D A [.ref b, .int (nI k)] H0) (x_Q none (fun H1 => ∃ G1 : m_G, m_O D b v0 v1 v2 (nI (m_ren fs i o.2.1 o.2.2.1).length) v4 v5 v6 v7 H1 ∧ m_R D A b G1 H1 ∧ m_K b H0 H1 ∧ m_L G1 0 (m_ren fs i o.2.1 o.2.2.1) ∧ m_f60 G G1)) 0 0 (m_fq b) := by
  refine Met.ofW (cc := prog_10_method_10_code) (maxL := 5) (ret := none) (by decide) rfl ?_
  intro p e s m args below meth c s₁ B hml hv
  obtain ⟨rfl, hH, hK, hN⟩ := hv
  obtain ⟨hx, hb, hr, htb, hown, hlocks⟩ := x_start (wd := Cond.code y_Mo_act prog_10_method_10_code 5 none) B
  have hl := lv_entry ([.ref b, .int (nI k)]) (n := 5) (Nat.le_of_ble_eq_true rfl)
  rw [lg_entry_eq]
  generalize (lg_sl ([.ref b, .int (nI k)]) ++ List.replicate (5 - (lg_sl ([.ref b, .int (nI k)])).length) Slot.unset).toArray = ls at hl ⊢
  have hl : lv_has ls 5 [(0, .ref b), (1, .int (nI k))] := hl
  rw [hH]
  have hM : m_K b H0 H0 := m_K.refl
  have hL : ∀ q ∈ ([] : List Loc), m_fq b q.base := fun q hq => by cases hq
  refine lv_bipush (v := 120) hx hb d_Mo_act_0 (by decide) ?_
  refine lv_iload_n hx hb d_Mo_act_2 rfl (lv_at hl 1 rfl) ?_
  refine lv_iadd hx hb d_Mo_act_3 ?_
  refine x_top (y := nI (120 + k)) (nI_add 120 k) ?_
  refine lv_istore_n (lv' := [(2, .int (nI (120 + k))), (0, .ref b), (1, .int (nI k))]) hx hb d_Mo_act_4 rfl hl (by decide) rfl (fun ls hl => ?_)
  refine lv_aload_n hx hb d_Mo_act_5 rfl (lv_at hl 1 rfl) ?_
  refine lv_aload_n hx hb d_Mo_act_6 rfl (lv_at hl 1 rfl) ?_
  refine x_get (ci := 8) (T := T_Mo) hx hb htb u_Mo hown hK ho rfl 5 (by decide) (htb _ mw_468) (fun _ h9 => h9) (v := .ref (b + 3)) rfl d_Mo_act_7 ?_
  refine lv_iload_n hx hb d_Mo_act_10 rfl (lv_at hl 0 rfl) ?_
  refine m_ild hx hb hK hR 3 (by decide) (by decide) rfl (i := 120 + k) (show _ < 320 by omega) d_Mo_act_11 ?_
  refine x_top (y := o.2.2.2.1.1) (o4.1.1) ?_
  refine lv_aload_n hx hb d_Mo_act_12 rfl (lv_at hl 1 rfl) ?_
  refine x_get (ci := 8) (T := T_Mo) hx hb htb u_Mo hown hK ho rfl 6 (by decide) (htb _ mw_469) (fun _ h9 => h9) (v := .ref (b + 4)) rfl d_Mo_act_13 ?_
  refine lv_iload_n hx hb d_Mo_act_16 rfl (lv_at hl 0 rfl) ?_
  refine m_ild hx hb hK hR 4 (by decide) (by decide) rfl (i := 120 + k) (show _ < 320 by omega) d_Mo_act_17 ?_
  refine x_top (y := o.2.2.2.1.2.1) (o4.1.2) ?_
  refine lv_iload_n hx hb d_Mo_act_18 rfl (lv_at hl 0 rfl) ?_
  refine x_callP (va_runV (As := [.int o.2.2.2.1.1, .int o.2.2.2.1.2.1, .int (nI (120 + k))]) (rest := []) ⟨hx, hb, hml, hown, htb⟩ (c_Mo_find l ho hR (n := o.2.2.2.1) hfl hfs (by omega) o4 rfl) (x_cV 3 htb mw_573 mw_6 mw_576 mw_575 ms_13 rfl rfl (by decide +kernel) ⟨Nat.le_of_ble_eq_true rfl, Nat.le_of_ble_eq_true rfl⟩) (x_preV hK hN ho rfl) rfl rfl hl.1 rfl (lv_room (Nat.le_of_ble_eq_true rfl)) d_Mo_act_19 ⟨Nat.le_of_ble_eq_true rfl, Nat.le_of_ble_eq_true rfl⟩) ?_
  refine W.eq (g2 := F0 m 22 ls [.int (g_ixv (g_find fs o.2.2.2.1))]) rfl ?_
  have hi := g_find_lt hg
  obtain ⟨g, hgg⟩ := g_ex (as := fs) (j := i) hi
  have hge : m_e G i g := hfs i g hgg
  refine x_top (y := nI i) (congrArg g_ixv hg) ?_
  refine lv_istore_n (lv' := [(3, .int (nI i)), (2, .int (nI (120 + k))), (0, .ref b), (1, .int (nI k))]) hx hb d_Mo_act_22 rfl hl (by decide) rfl (fun ls hl => ?_)
  refine lv_aload_n hx hb d_Mo_act_23 rfl (lv_at hl 2 rfl) ?_
  refine x_get (ci := 8) (T := T_Mo) hx hb htb u_Mo hown hK ho rfl 15 (by decide) (htb _ mw_478) (fun _ h9 => h9) (v := .ref (b + 9)) rfl d_Mo_act_24 ?_
  refine lv_iload_n hx hb d_Mo_act_27 rfl (lv_at hl 3 rfl) ?_
  refine m_ild hx hb hK hR 9 (by decide) (by decide) rfl (i := k) (show _ < 200 by omega) d_Mo_act_28 ?_
  refine x_top (y := o.1) (o1) ?_
  refine lv_if_ne (tgt := 61) hx hb d_Mo_act_29 (by decide) (fun _ => ?_) (fun c9 => absurd c9 hw0)
  refine lv_aload_n hx hb d_Mo_act_61 rfl (lv_at hl 2 rfl) ?_
  refine x_get (ci := 8) (T := T_Mo) hx hb htb u_Mo hown hK ho rfl 15 (by decide) (htb _ mw_478) (fun _ h9 => h9) (v := .ref (b + 9)) rfl d_Mo_act_62 ?_
  refine lv_iload_n hx hb d_Mo_act_65 rfl (lv_at hl 3 rfl) ?_
  refine m_ild hx hb hK hR 9 (by decide) (by decide) rfl (i := k) (show _ < 200 by omega) d_Mo_act_66 ?_
  refine x_top (y := o.1) (o1) ?_
  refine lv_iconst (v := 2) hx hb d_Mo_act_67 (by decide) ?_
  refine lv_icmp_ne (tgt := 79) hx hb d_Mo_act_68 (by decide) (fun _ => ?_) (fun c9 => absurd c9 hw2)
  refine lv_aload_n hx hb d_Mo_act_79 rfl (lv_at hl 2 rfl) ?_
  refine x_get (ci := 8) (T := T_Mo) hx hb htb u_Mo hown hK ho rfl 16 (by decide) (htb _ mw_479) (fun _ h9 => h9) (v := .ref (b + 10)) rfl d_Mo_act_80 ?_
  refine lv_iload_n hx hb d_Mo_act_83 rfl (lv_at hl 3 rfl) ?_
  refine m_ild hx hb hK hR 10 (by decide) (by decide) rfl (i := k) (show _ < 200 by omega) d_Mo_act_84 ?_
  refine x_top (y := o.2.1) (o2) ?_
  refine lv_aload_n hx hb d_Mo_act_85 rfl (lv_at hl 2 rfl) ?_
  refine x_get (ci := 8) (T := T_Mo) hx hb htb u_Mo hown hK ho rfl 5 (by decide) (htb _ mw_468) (fun _ h9 => h9) (v := .ref (b + 3)) rfl d_Mo_act_86 ?_
  refine lv_iload_n hx hb d_Mo_act_89 rfl (lv_at hl 1 rfl) ?_
  refine m_ild hx hb hK hR 3 (by decide) (by decide) rfl (i := 120 + k) (show _ < 320 by omega) d_Mo_act_90 ?_
  refine x_top (y := o.2.2.2.1.1) (o4.1.1) ?_
  have rest : ∀ ls, lv_has ls 5 [(3, .int (nI i)), (2, .int (nI (120 + k))), (0, .ref b), (1, .int (nI k))] → W p l e (headSpec w_Mo_act { frames := 2, cells := 0, slots := 0, locals := 48 }).room s m [Value.ref b, Value.int (nI k)].toArray below meth c H0 [] 0 0 (MQ below (x_Q none (fun H1 => ∃ G1 : m_G, m_O D b v0 v1 v2 (nI (m_ren fs i o.2.1 o.2.2.1).length) v4 v5 v6 v7 H1 ∧ m_R D A b G1 H1 ∧ m_K b H0 H1 ∧ m_L G1 0 (m_ren fs i o.2.1 o.2.2.1) ∧ m_f60 G G1)) [Value.ref b, Value.int (nI k)].toArray s 0 0 (m_fq b)) (F0 m 109 ls []) := by
    intro ls hl
    refine lv_aload_n hx hb d_Mo_act_109 rfl (lv_at hl 2 rfl) ?_
    refine lv_aload_n hx hb d_Mo_act_110 rfl (lv_at hl 2 rfl) ?_
    refine x_get (ci := 8) (T := T_Mo) hx hb htb u_Mo hown hK ho rfl 16 (by decide) (htb _ mw_479) (fun _ h9 => h9) (v := .ref (b + 10)) rfl d_Mo_act_111 ?_
    refine lv_iload_n hx hb d_Mo_act_114 rfl (lv_at hl 3 rfl) ?_
    refine m_ild hx hb hK hR 10 (by decide) (by decide) rfl (i := k) (show _ < 200 by omega) d_Mo_act_115 ?_
    refine x_top (y := o.2.1) (o2) ?_
    refine lv_aload_n hx hb d_Mo_act_116 rfl (lv_at hl 2 rfl) ?_
    refine x_get (ci := 8) (T := T_Mo) hx hb htb u_Mo hown hK ho rfl 17 (by decide) (htb _ mw_480) (fun _ h9 => h9) (v := .ref (b + 11)) rfl d_Mo_act_117 ?_
    refine lv_iload_n hx hb d_Mo_act_120 rfl (lv_at hl 3 rfl) ?_
    refine m_ild hx hb hK hR 11 (by decide) (by decide) rfl (i := k) (show _ < 200 by omega) d_Mo_act_121 ?_
    refine x_top (y := o.2.2.1) (o3) ?_
    refine lv_iload_n hx hb d_Mo_act_122 rfl (lv_at hl 1 rfl) ?_
    refine x_callP (va_runV (As := [.int o.2.1, .int o.2.2.1, .int (nI (120 + k))]) (rest := []) ⟨hx, hb, hml, hown, htb⟩ (c_Mo_find l ho hR (n := (o.2.1, o.2.2.1, o.2.2.2.1.2.2)) hfl hfs (by omega) o4 rfl) (x_cV 3 htb mw_573 mw_6 mw_576 mw_575 ms_13 rfl rfl (by decide +kernel) ⟨Nat.le_of_ble_eq_true rfl, Nat.le_of_ble_eq_true rfl⟩) (x_preV hK hN ho rfl) rfl rfl hl.1 rfl (lv_room (Nat.le_of_ble_eq_true rfl)) d_Mo_act_123 ⟨Nat.le_of_ble_eq_true rfl, Nat.le_of_ble_eq_true rfl⟩) ?_
    refine W.eq (g2 := F0 m 126 ls [.int (g_ixv (g_find fs (o.2.1, o.2.2.1, o.2.2.2.1.2.2)))]) rfl ?_
    refine x_top (y := (-1)) (congrArg g_ixv hj) ?_
    refine lv_istore (lv' := [(4, .int (-1)), (3, .int (nI i)), (2, .int (nI (120 + k))), (0, .ref b), (1, .int (nI k))]) hx hb d_Mo_act_126 hl (by decide) rfl (fun ls hl => ?_)
    refine lv_aload_n hx hb d_Mo_act_128 rfl (lv_at hl 3 rfl) ?_
    refine x_get (ci := 8) (T := T_Mo) hx hb htb u_Mo hown hK ho rfl 5 (by decide) (htb _ mw_468) (fun _ h9 => h9) (v := .ref (b + 3)) rfl d_Mo_act_129 ?_
    refine lv_iload_n hx hb d_Mo_act_132 rfl (lv_at hl 1 rfl) ?_
    refine lv_aload_n hx hb d_Mo_act_133 rfl (lv_at hl 3 rfl) ?_
    refine x_get (ci := 8) (T := T_Mo) hx hb htb u_Mo hown hK ho rfl 16 (by decide) (htb _ mw_479) (fun _ h9 => h9) (v := .ref (b + 10)) rfl d_Mo_act_134 ?_
    refine lv_iload_n hx hb d_Mo_act_137 rfl (lv_at hl 4 rfl) ?_
    refine m_ild hx hb hK hR 10 (by decide) (by decide) rfl (i := k) (show _ < 200 by omega) d_Mo_act_138 ?_
    refine x_top (y := o.2.1) (o2) ?_
    refine m_ist hx hb hK ho hM hL hR 3 (by decide) (by decide) rfl (i := i) (show _ < 320 by omega) d_Mo_act_139 (fun H1 locs ho hM hL hR => ?_)
    obtain ⟨G1, eG1⟩ : ∃ Gq : m_G, Gq = m_up G 3 (upd (G 3) i o.2.1) := ⟨_, rfl⟩
    rw [← eG1] at hR
    have uG1 : ∀ j, j ≠ 3 → G1 j = G j := fun j h => by rw [eG1]; exact m_up_ne _ _ h
    have sG1 : G1 3 = upd (G 3) i o.2.1 := by rw [eG1]; exact m_up_self _ _ _
    refine lv_aload_n hx hb d_Mo_act_140 rfl (lv_at hl 3 rfl) ?_
    refine x_get (ci := 8) (T := T_Mo) hx hb htb u_Mo hown hK ho rfl 6 (by decide) (htb _ mw_469) (fun _ h9 => h9) (v := .ref (b + 4)) rfl d_Mo_act_141 ?_
    refine lv_iload_n hx hb d_Mo_act_144 rfl (lv_at hl 1 rfl) ?_
    refine lv_aload_n hx hb d_Mo_act_145 rfl (lv_at hl 3 rfl) ?_
    refine x_get (ci := 8) (T := T_Mo) hx hb htb u_Mo hown hK ho rfl 17 (by decide) (htb _ mw_480) (fun _ h9 => h9) (v := .ref (b + 11)) rfl d_Mo_act_146 ?_
    refine lv_iload_n hx hb d_Mo_act_149 rfl (lv_at hl 4 rfl) ?_
    refine m_ild hx hb hK hR 11 (by decide) (by decide) rfl (i := k) (show _ < 200 by omega) d_Mo_act_150 ?_
    refine x_top (y := o.2.2.1) ((congrFun (uG1 11 (by decide)) _).trans o3) ?_
    refine m_ist hx hb hK ho hM hL hR 4 (by decide) (by decide) rfl (i := i) (show _ < 320 by omega) d_Mo_act_151 (fun H2 locs ho hM hL hR => ?_)
    obtain ⟨G2, eG2⟩ : ∃ Gq : m_G, Gq = m_up G1 4 (upd (G1 4) i o.2.2.1) := ⟨_, rfl⟩
    rw [← eG2] at hR
    have uG2 : ∀ j, j ≠ 4 → G2 j = G1 j := fun j h => by rw [eG2]; exact m_up_ne _ _ h
    have sG2 : G2 4 = upd (G1 4) i o.2.2.1 := by rw [eG2]; exact m_up_self _ _ _
    obtain ⟨r1, r2⟩ := hge.ren eG1 eG2
    have hfs2 : m_L G2 0 (m_ren fs i o.2.1 o.2.2.1) := by rw [m_ren_some hgg]; exact hfs.set r2 r1
    refine lv_iload hx hb d_Mo_act_152 (lv_at hl 0 rfl) ?_
    refine lv_iconst (v := (-1)) hx hb d_Mo_act_154 (by decide) ?_
    refine lv_icmp_eq (tgt := 164) hx hb d_Mo_act_155 (by decide) (fun _ => ?_) (fun c9 => absurd rfl c9)
    exact x_vret hx hb hr hlocks ⟨G2, by rw [m_ren_len]; exact ho, hR, hM, hfs2, r2.f60 (by omega)⟩ hL (Nat.le_refl _) (Nat.le_refl _) d_Mo_act_164
  refine lv_icmp_ne (tgt := 109) hx hb d_Mo_act_91 (by decide) (fun c1 => ?_) (fun c1 => ?_)
  · exact rest ls (lv_sub hl [0, 1, 2, 3] rfl)
  · refine lv_aload_n hx hb d_Mo_act_94 rfl (lv_at hl 2 rfl) ?_
    refine x_get (ci := 8) (T := T_Mo) hx hb htb u_Mo hown hK ho rfl 17 (by decide) (htb _ mw_480) (fun _ h9 => h9) (v := .ref (b + 11)) rfl d_Mo_act_95 ?_
    refine lv_iload_n hx hb d_Mo_act_98 rfl (lv_at hl 3 rfl) ?_
    refine m_ild hx hb hK hR 11 (by decide) (by decide) rfl (i := k) (show _ < 200 by omega) d_Mo_act_99 ?_
    refine x_top (y := o.2.2.1) (o3) ?_
    refine lv_aload_n hx hb d_Mo_act_100 rfl (lv_at hl 2 rfl) ?_
    refine x_get (ci := 8) (T := T_Mo) hx hb htb u_Mo hown hK ho rfl 6 (by decide) (htb _ mw_469) (fun _ h9 => h9) (v := .ref (b + 4)) rfl d_Mo_act_101 ?_
    refine lv_iload_n hx hb d_Mo_act_104 rfl (lv_at hl 1 rfl) ?_
    refine m_ild hx hb hK hR 4 (by decide) (by decide) rfl (i := 120 + k) (show _ < 320 by omega) d_Mo_act_105 ?_
    refine x_top (y := o.2.2.2.1.2.1) (o4.1.2) ?_
    refine lv_icmp_eq (tgt := 164) hx hb d_Mo_act_106 (by decide) (fun c9 => absurd c9 (fun q => hs ⟨c1, q⟩)) (fun _ => ?_)
    exact rest ls (lv_sub hl [0, 1, 2, 3] rfl)
set_option maxHeartbeats 4000000 in
set_option maxRecDepth 100000 in
theorem c_Mo_actR2 (l : Launch) {D : va_G} {A : Nat → ClassId} {H0 : Heap} {b : Nat} {v0 v1 v2 v4 v5 v6 v7 : Int32} {G : m_G} {fs : List g_F} (ho : m_O D b v0 v1 v2 (nI fs.length) v4 v5 v6 v7 H0) (hR : m_R D A b G H0) {k : Nat} {o : m_P} (hfl : fs.length ≤ 60) (hfs : m_L G 0 fs) (hk : k < 200) (o1 : G 9 k = o.1) (o2 : G 10 k = o.2.1) (o3 : G 11 k = o.2.2.1) (o4 : m_e G (120 + k) o.2.2.2) (hw0 : ¬ o.1 = 0) (hw2 : ¬ o.1 = 2) {i : Nat} (hg : g_find fs o.2.2.2.1 = some i) (hs : ¬ (o.2.1 = o.2.2.2.1.1 ∧ o.2.2.1 = o.2.2.2.1.2.1)) {j : Nat} (hj : g_find fs (o.2.1, o.2.2.1, o.2.2.2.1.2.2) = some j) : Met l y_Mo_act w_Mo_act { frames := 2, cells := 0, slots := 0, locals := 48 } (x_Pc D A [.ref b, .int (nI k)] H0) (x_Q none (fun H1 => ∃ G1 : m_G, m_O D b v0 v1 v2 (nI (m_drop (m_ren fs i o.2.1 o.2.2.1) j).length) v4 v5 v6 v7 H1 ∧ m_R D A b G1 H1 ∧ m_K b H0 H1 ∧ m_L G1 0 (m_drop (m_ren fs i o.2.1 o.2.2.1) j) ∧ m_f60 G G1)) 0 0 (m_fq b) := by
  refine Met.ofW (cc := prog_10_method_10_code) (maxL := 5) (ret := none) (by decide) rfl ?_
  intro p e s m args below meth c s₁ B hml hv
  obtain ⟨rfl, hH, hK, hN⟩ := hv
  obtain ⟨hx, hb, hr, htb, hown, hlocks⟩ := x_start (wd := Cond.code y_Mo_act prog_10_method_10_code 5 none) B
  have hl := lv_entry ([.ref b, .int (nI k)]) (n := 5) (Nat.le_of_ble_eq_true rfl)
  rw [lg_entry_eq]
  generalize (lg_sl ([.ref b, .int (nI k)]) ++ List.replicate (5 - (lg_sl ([.ref b, .int (nI k)])).length) Slot.unset).toArray = ls at hl ⊢
  have hl : lv_has ls 5 [(0, .ref b), (1, .int (nI k))] := hl
  rw [hH]
  have hM : m_K b H0 H0 := m_K.refl
  have hL : ∀ q ∈ ([] : List Loc), m_fq b q.base := fun q hq => by cases hq
  refine lv_bipush (v := 120) hx hb d_Mo_act_0 (by decide) ?_
  refine lv_iload_n hx hb d_Mo_act_2 rfl (lv_at hl 1 rfl) ?_
  refine lv_iadd hx hb d_Mo_act_3 ?_
  refine x_top (y := nI (120 + k)) (nI_add 120 k) ?_
  refine lv_istore_n (lv' := [(2, .int (nI (120 + k))), (0, .ref b), (1, .int (nI k))]) hx hb d_Mo_act_4 rfl hl (by decide) rfl (fun ls hl => ?_)
  refine lv_aload_n hx hb d_Mo_act_5 rfl (lv_at hl 1 rfl) ?_
  refine lv_aload_n hx hb d_Mo_act_6 rfl (lv_at hl 1 rfl) ?_
  refine x_get (ci := 8) (T := T_Mo) hx hb htb u_Mo hown hK ho rfl 5 (by decide) (htb _ mw_468) (fun _ h9 => h9) (v := .ref (b + 3)) rfl d_Mo_act_7 ?_
  refine lv_iload_n hx hb d_Mo_act_10 rfl (lv_at hl 0 rfl) ?_
  refine m_ild hx hb hK hR 3 (by decide) (by decide) rfl (i := 120 + k) (show _ < 320 by omega) d_Mo_act_11 ?_
  refine x_top (y := o.2.2.2.1.1) (o4.1.1) ?_
  refine lv_aload_n hx hb d_Mo_act_12 rfl (lv_at hl 1 rfl) ?_
  refine x_get (ci := 8) (T := T_Mo) hx hb htb u_Mo hown hK ho rfl 6 (by decide) (htb _ mw_469) (fun _ h9 => h9) (v := .ref (b + 4)) rfl d_Mo_act_13 ?_
  refine lv_iload_n hx hb d_Mo_act_16 rfl (lv_at hl 0 rfl) ?_
  refine m_ild hx hb hK hR 4 (by decide) (by decide) rfl (i := 120 + k) (show _ < 320 by omega) d_Mo_act_17 ?_
  refine x_top (y := o.2.2.2.1.2.1) (o4.1.2) ?_
  refine lv_iload_n hx hb d_Mo_act_18 rfl (lv_at hl 0 rfl) ?_
  refine x_callP (va_runV (As := [.int o.2.2.2.1.1, .int o.2.2.2.1.2.1, .int (nI (120 + k))]) (rest := []) ⟨hx, hb, hml, hown, htb⟩ (c_Mo_find l ho hR (n := o.2.2.2.1) hfl hfs (by omega) o4 rfl) (x_cV 3 htb mw_573 mw_6 mw_576 mw_575 ms_13 rfl rfl (by decide +kernel) ⟨Nat.le_of_ble_eq_true rfl, Nat.le_of_ble_eq_true rfl⟩) (x_preV hK hN ho rfl) rfl rfl hl.1 rfl (lv_room (Nat.le_of_ble_eq_true rfl)) d_Mo_act_19 ⟨Nat.le_of_ble_eq_true rfl, Nat.le_of_ble_eq_true rfl⟩) ?_
  refine W.eq (g2 := F0 m 22 ls [.int (g_ixv (g_find fs o.2.2.2.1))]) rfl ?_
  have hi := g_find_lt hg
  obtain ⟨g, hgg⟩ := g_ex (as := fs) (j := i) hi
  have hge : m_e G i g := hfs i g hgg
  refine x_top (y := nI i) (congrArg g_ixv hg) ?_
  refine lv_istore_n (lv' := [(3, .int (nI i)), (2, .int (nI (120 + k))), (0, .ref b), (1, .int (nI k))]) hx hb d_Mo_act_22 rfl hl (by decide) rfl (fun ls hl => ?_)
  refine lv_aload_n hx hb d_Mo_act_23 rfl (lv_at hl 2 rfl) ?_
  refine x_get (ci := 8) (T := T_Mo) hx hb htb u_Mo hown hK ho rfl 15 (by decide) (htb _ mw_478) (fun _ h9 => h9) (v := .ref (b + 9)) rfl d_Mo_act_24 ?_
  refine lv_iload_n hx hb d_Mo_act_27 rfl (lv_at hl 3 rfl) ?_
  refine m_ild hx hb hK hR 9 (by decide) (by decide) rfl (i := k) (show _ < 200 by omega) d_Mo_act_28 ?_
  refine x_top (y := o.1) (o1) ?_
  refine lv_if_ne (tgt := 61) hx hb d_Mo_act_29 (by decide) (fun _ => ?_) (fun c9 => absurd c9 hw0)
  refine lv_aload_n hx hb d_Mo_act_61 rfl (lv_at hl 2 rfl) ?_
  refine x_get (ci := 8) (T := T_Mo) hx hb htb u_Mo hown hK ho rfl 15 (by decide) (htb _ mw_478) (fun _ h9 => h9) (v := .ref (b + 9)) rfl d_Mo_act_62 ?_
  refine lv_iload_n hx hb d_Mo_act_65 rfl (lv_at hl 3 rfl) ?_
  refine m_ild hx hb hK hR 9 (by decide) (by decide) rfl (i := k) (show _ < 200 by omega) d_Mo_act_66 ?_
  refine x_top (y := o.1) (o1) ?_
  refine lv_iconst (v := 2) hx hb d_Mo_act_67 (by decide) ?_
  refine lv_icmp_ne (tgt := 79) hx hb d_Mo_act_68 (by decide) (fun _ => ?_) (fun c9 => absurd c9 hw2)
  refine lv_aload_n hx hb d_Mo_act_79 rfl (lv_at hl 2 rfl) ?_
  refine x_get (ci := 8) (T := T_Mo) hx hb htb u_Mo hown hK ho rfl 16 (by decide) (htb _ mw_479) (fun _ h9 => h9) (v := .ref (b + 10)) rfl d_Mo_act_80 ?_
  refine lv_iload_n hx hb d_Mo_act_83 rfl (lv_at hl 3 rfl) ?_
  refine m_ild hx hb hK hR 10 (by decide) (by decide) rfl (i := k) (show _ < 200 by omega) d_Mo_act_84 ?_
  refine x_top (y := o.2.1) (o2) ?_
  refine lv_aload_n hx hb d_Mo_act_85 rfl (lv_at hl 2 rfl) ?_
  refine x_get (ci := 8) (T := T_Mo) hx hb htb u_Mo hown hK ho rfl 5 (by decide) (htb _ mw_468) (fun _ h9 => h9) (v := .ref (b + 3)) rfl d_Mo_act_86 ?_
  refine lv_iload_n hx hb d_Mo_act_89 rfl (lv_at hl 1 rfl) ?_
  refine m_ild hx hb hK hR 3 (by decide) (by decide) rfl (i := 120 + k) (show _ < 320 by omega) d_Mo_act_90 ?_
  refine x_top (y := o.2.2.2.1.1) (o4.1.1) ?_
  have rest : ∀ ls, lv_has ls 5 [(3, .int (nI i)), (2, .int (nI (120 + k))), (0, .ref b), (1, .int (nI k))] → W p l e (headSpec w_Mo_act { frames := 2, cells := 0, slots := 0, locals := 48 }).room s m [Value.ref b, Value.int (nI k)].toArray below meth c H0 [] 0 0 (MQ below (x_Q none (fun H1 => ∃ G1 : m_G, m_O D b v0 v1 v2 (nI (m_drop (m_ren fs i o.2.1 o.2.2.1) j).length) v4 v5 v6 v7 H1 ∧ m_R D A b G1 H1 ∧ m_K b H0 H1 ∧ m_L G1 0 (m_drop (m_ren fs i o.2.1 o.2.2.1) j) ∧ m_f60 G G1)) [Value.ref b, Value.int (nI k)].toArray s 0 0 (m_fq b)) (F0 m 109 ls []) := by
    intro ls hl
    refine lv_aload_n hx hb d_Mo_act_109 rfl (lv_at hl 2 rfl) ?_
    refine lv_aload_n hx hb d_Mo_act_110 rfl (lv_at hl 2 rfl) ?_
    refine x_get (ci := 8) (T := T_Mo) hx hb htb u_Mo hown hK ho rfl 16 (by decide) (htb _ mw_479) (fun _ h9 => h9) (v := .ref (b + 10)) rfl d_Mo_act_111 ?_
    refine lv_iload_n hx hb d_Mo_act_114 rfl (lv_at hl 3 rfl) ?_
    refine m_ild hx hb hK hR 10 (by decide) (by decide) rfl (i := k) (show _ < 200 by omega) d_Mo_act_115 ?_
    refine x_top (y := o.2.1) (o2) ?_
    refine lv_aload_n hx hb d_Mo_act_116 rfl (lv_at hl 2 rfl) ?_
    refine x_get (ci := 8) (T := T_Mo) hx hb htb u_Mo hown hK ho rfl 17 (by decide) (htb _ mw_480) (fun _ h9 => h9) (v := .ref (b + 11)) rfl d_Mo_act_117 ?_
    refine lv_iload_n hx hb d_Mo_act_120 rfl (lv_at hl 3 rfl) ?_
    refine m_ild hx hb hK hR 11 (by decide) (by decide) rfl (i := k) (show _ < 200 by omega) d_Mo_act_121 ?_
    refine x_top (y := o.2.2.1) (o3) ?_
    refine lv_iload_n hx hb d_Mo_act_122 rfl (lv_at hl 1 rfl) ?_
    refine x_callP (va_runV (As := [.int o.2.1, .int o.2.2.1, .int (nI (120 + k))]) (rest := []) ⟨hx, hb, hml, hown, htb⟩ (c_Mo_find l ho hR (n := (o.2.1, o.2.2.1, o.2.2.2.1.2.2)) hfl hfs (by omega) o4 rfl) (x_cV 3 htb mw_573 mw_6 mw_576 mw_575 ms_13 rfl rfl (by decide +kernel) ⟨Nat.le_of_ble_eq_true rfl, Nat.le_of_ble_eq_true rfl⟩) (x_preV hK hN ho rfl) rfl rfl hl.1 rfl (lv_room (Nat.le_of_ble_eq_true rfl)) d_Mo_act_123 ⟨Nat.le_of_ble_eq_true rfl, Nat.le_of_ble_eq_true rfl⟩) ?_
    refine W.eq (g2 := F0 m 126 ls [.int (g_ixv (g_find fs (o.2.1, o.2.2.1, o.2.2.2.1.2.2)))]) rfl ?_
    refine x_top (y := nI j) (congrArg g_ixv hj) ?_
    refine lv_istore (lv' := [(4, .int (nI j)), (3, .int (nI i)), (2, .int (nI (120 + k))), (0, .ref b), (1, .int (nI k))]) hx hb d_Mo_act_126 hl (by decide) rfl (fun ls hl => ?_)
    refine lv_aload_n hx hb d_Mo_act_128 rfl (lv_at hl 3 rfl) ?_
    refine x_get (ci := 8) (T := T_Mo) hx hb htb u_Mo hown hK ho rfl 5 (by decide) (htb _ mw_468) (fun _ h9 => h9) (v := .ref (b + 3)) rfl d_Mo_act_129 ?_
    refine lv_iload_n hx hb d_Mo_act_132 rfl (lv_at hl 1 rfl) ?_
    refine lv_aload_n hx hb d_Mo_act_133 rfl (lv_at hl 3 rfl) ?_
    refine x_get (ci := 8) (T := T_Mo) hx hb htb u_Mo hown hK ho rfl 16 (by decide) (htb _ mw_479) (fun _ h9 => h9) (v := .ref (b + 10)) rfl d_Mo_act_134 ?_
    refine lv_iload_n hx hb d_Mo_act_137 rfl (lv_at hl 4 rfl) ?_
    refine m_ild hx hb hK hR 10 (by decide) (by decide) rfl (i := k) (show _ < 200 by omega) d_Mo_act_138 ?_
    refine x_top (y := o.2.1) (o2) ?_
    refine m_ist hx hb hK ho hM hL hR 3 (by decide) (by decide) rfl (i := i) (show _ < 320 by omega) d_Mo_act_139 (fun H1 locs ho hM hL hR => ?_)
    obtain ⟨G1, eG1⟩ : ∃ Gq : m_G, Gq = m_up G 3 (upd (G 3) i o.2.1) := ⟨_, rfl⟩
    rw [← eG1] at hR
    have uG1 : ∀ j, j ≠ 3 → G1 j = G j := fun j h => by rw [eG1]; exact m_up_ne _ _ h
    have sG1 : G1 3 = upd (G 3) i o.2.1 := by rw [eG1]; exact m_up_self _ _ _
    refine lv_aload_n hx hb d_Mo_act_140 rfl (lv_at hl 3 rfl) ?_
    refine x_get (ci := 8) (T := T_Mo) hx hb htb u_Mo hown hK ho rfl 6 (by decide) (htb _ mw_469) (fun _ h9 => h9) (v := .ref (b + 4)) rfl d_Mo_act_141 ?_
    refine lv_iload_n hx hb d_Mo_act_144 rfl (lv_at hl 1 rfl) ?_
    refine lv_aload_n hx hb d_Mo_act_145 rfl (lv_at hl 3 rfl) ?_
    refine x_get (ci := 8) (T := T_Mo) hx hb htb u_Mo hown hK ho rfl 17 (by decide) (htb _ mw_480) (fun _ h9 => h9) (v := .ref (b + 11)) rfl d_Mo_act_146 ?_
    refine lv_iload_n hx hb d_Mo_act_149 rfl (lv_at hl 4 rfl) ?_
    refine m_ild hx hb hK hR 11 (by decide) (by decide) rfl (i := k) (show _ < 200 by omega) d_Mo_act_150 ?_
    refine x_top (y := o.2.2.1) ((congrFun (uG1 11 (by decide)) _).trans o3) ?_
    refine m_ist hx hb hK ho hM hL hR 4 (by decide) (by decide) rfl (i := i) (show _ < 320 by omega) d_Mo_act_151 (fun H2 locs ho hM hL hR => ?_)
    obtain ⟨G2, eG2⟩ : ∃ Gq : m_G, Gq = m_up G1 4 (upd (G1 4) i o.2.2.1) := ⟨_, rfl⟩
    rw [← eG2] at hR
    have uG2 : ∀ j, j ≠ 4 → G2 j = G1 j := fun j h => by rw [eG2]; exact m_up_ne _ _ h
    have sG2 : G2 4 = upd (G1 4) i o.2.2.1 := by rw [eG2]; exact m_up_self _ _ _
    obtain ⟨r1, r2⟩ := hge.ren eG1 eG2
    have hfs2 : m_L G2 0 (m_ren fs i o.2.1 o.2.2.1) := by rw [m_ren_some hgg]; exact hfs.set r2 r1
    refine lv_iload hx hb d_Mo_act_152 (lv_at hl 0 rfl) ?_
    refine lv_iconst (v := (-1)) hx hb d_Mo_act_154 (by decide) ?_
    have hjl := g_find_lt hj
    refine lv_icmp_eq (tgt := 164) hx hb d_Mo_act_155 (by decide) (fun c9 => absurd c9 (m_nm1 (by omega))) (fun _ => ?_)
    refine lv_aload_n hx hb d_Mo_act_158 rfl (lv_at hl 3 rfl) ?_
    refine lv_iload hx hb d_Mo_act_159 (lv_at hl 0 rfl) ?_
    have el : (m_ren fs i o.2.1 o.2.2.1).length = fs.length := m_ren_len
    refine x_call (F := m_fq b) (va_runV (As := [.int (nI j)]) (rest := []) ⟨hx, hb, hml, hown, htb⟩ (c_Mo_drop l (fs := m_ren fs i o.2.1 o.2.2.1) (k := j) (by rw [el]; exact ho) hR (by omega) hfs2 (by omega)) (x_cV 1 htb mw_585 mw_6 mw_588 mw_587 ms_16 rfl rfl (by decide +kernel) ⟨Nat.le_of_ble_eq_true rfl, Nat.le_of_ble_eq_true rfl⟩) (x_preV hK hN ho rfl) rfl rfl hl.1 rfl (lv_room (Nat.le_of_ble_eq_true rfl)) d_Mo_act_161 ⟨Nat.le_of_ble_eq_true rfl, Nat.le_of_ble_eq_true rfl⟩) hL (fun q hq => hq) (fun H3 locs hP hL => ?_)
    refine W.eq (g2 := F0 m 164 ls []) rfl ?_
    obtain ⟨G3, q1, q2, q3, q4, q5⟩ := hP
    exact x_vret hx hb hr hlocks ⟨G3, by rw [m_drop_len (by omega)]; exact q1, q2, hM.trans q3, q4, (r2.f60 (by omega)).trans (q5.f60 (by omega))⟩ hL (Nat.le_refl _) (Nat.le_refl _) d_Mo_act_164
  refine lv_icmp_ne (tgt := 109) hx hb d_Mo_act_91 (by decide) (fun c1 => ?_) (fun c1 => ?_)
  · exact rest ls (lv_sub hl [0, 1, 2, 3] rfl)
  · refine lv_aload_n hx hb d_Mo_act_94 rfl (lv_at hl 2 rfl) ?_
    refine x_get (ci := 8) (T := T_Mo) hx hb htb u_Mo hown hK ho rfl 17 (by decide) (htb _ mw_480) (fun _ h9 => h9) (v := .ref (b + 11)) rfl d_Mo_act_95 ?_
    refine lv_iload_n hx hb d_Mo_act_98 rfl (lv_at hl 3 rfl) ?_
    refine m_ild hx hb hK hR 11 (by decide) (by decide) rfl (i := k) (show _ < 200 by omega) d_Mo_act_99 ?_
    refine x_top (y := o.2.2.1) (o3) ?_
    refine lv_aload_n hx hb d_Mo_act_100 rfl (lv_at hl 2 rfl) ?_
    refine x_get (ci := 8) (T := T_Mo) hx hb htb u_Mo hown hK ho rfl 6 (by decide) (htb _ mw_469) (fun _ h9 => h9) (v := .ref (b + 4)) rfl d_Mo_act_101 ?_
    refine lv_iload_n hx hb d_Mo_act_104 rfl (lv_at hl 1 rfl) ?_
    refine m_ild hx hb hK hR 4 (by decide) (by decide) rfl (i := 120 + k) (show _ < 320 by omega) d_Mo_act_105 ?_
    refine x_top (y := o.2.2.2.1.2.1) (o4.1.2) ?_
    refine lv_icmp_eq (tgt := 164) hx hb d_Mo_act_106 (by decide) (fun c9 => absurd c9 (fun q => hs ⟨c1, q⟩)) (fun _ => ?_)
    exact rest ls (lv_sub hl [0, 1, 2, 3] rfl)
/-- an operation that can be done there -/
def m_ok (fs : List g_F) (o : m_P) : Prop := (o.1 = 0 ∧ fs.length < 60) ∨ ∃ i, g_find fs o.2.2.2.1 = some i
theorem c_Mo_act (l : Launch) {D : va_G} {A : Nat → ClassId} {H0 : Heap} {b : Nat} {v0 v1 v2 v4 v5 v6 v7 : Int32} {G : m_G} {fs : List g_F} (ho : m_O D b v0 v1 v2 (nI fs.length) v4 v5 v6 v7 H0) (hR : m_R D A b G H0) {k : Nat} {o : m_P} (hfl : fs.length ≤ 60) (hfs : m_L G 0 fs) (hk : k < 200) (o1 : G 9 k = o.1) (o2 : G 10 k = o.2.1) (o3 : G 11 k = o.2.2.1) (o4 : m_e G (120 + k) o.2.2.2) (hok : m_ok fs o) : Met l y_Mo_act w_Mo_act { frames := 2, cells := 0, slots := 0, locals := 48 } (x_Pc D A [.ref b, .int (nI k)] H0) (x_Q none (fun H1 => ∃ G1 : m_G, m_O D b v0 v1 v2 (nI (m_act fs o).length) v4 v5 v6 v7 H1 ∧ m_R D A b G1 H1 ∧ m_K b H0 H1 ∧ m_L G1 0 (m_act fs o) ∧ m_f60 G G1)) 0 0 (m_fq b) := by
  by_cases hw : o.1 = 0
  · cases hg : g_find fs o.2.2.2.1 with
    | none =>
      have e : m_act fs o = fs ++ [o.2.2.2] := by unfold m_act; rw [if_pos hw, hg]
      rw [e]
      refine c_Mo_actW0 l ho hR hfl hfs hk o1 o2 o3 o4 hw hg ?_
      rcases hok with h | ⟨i, h⟩
      · exact h.2
      · rw [hg] at h; cases h
    | some i =>
      have e : m_act fs o = fs.set i o.2.2.2 := by unfold m_act; rw [if_pos hw, hg]
      rw [e]
      exact c_Mo_actW1 l ho hR hfl hfs hk o1 o2 o3 o4 hw hg
  · obtain ⟨i, hg⟩ : ∃ i, g_find fs o.2.2.2.1 = some i := hok.resolve_left (fun q => hw q.1)
    by_cases hw2 : o.1 = 2
    · have e : m_act fs o = m_drop fs i := by unfold m_act; rw [if_neg hw, if_pos hw2, hg]
      rw [e]
      exact c_Mo_actD l ho hR hfl hfs hk o1 o2 o3 o4 hw2 hg
    · by_cases hs : o.2.1 = o.2.2.2.1.1 ∧ o.2.2.1 = o.2.2.2.1.2.1
      · have e : m_act fs o = fs := by unfold m_act; rw [if_neg hw, if_neg hw2, if_pos hs]
        rw [e]
        exact c_Mo_actR0 l ho hR hfl hfs hk o1 o2 o3 o4 hw hw2 hg hs
      · cases hj : g_find fs (o.2.1, o.2.2.1, o.2.2.2.1.2.2) with
        | none =>
          have e : m_act fs o = m_ren fs i o.2.1 o.2.2.1 := by unfold m_act; rw [if_neg hw, if_neg hw2, if_neg hs, hg]; dsimp only; rw [hj]
          rw [e]
          exact c_Mo_actR1 l ho hR hfl hfs hk o1 o2 o3 o4 hw hw2 hg hs hj
        | some j =>
          have e : m_act fs o = m_drop (m_ren fs i o.2.1 o.2.2.1) j := by unfold m_act; rw [if_neg hw, if_neg hw2, if_neg hs, hg]; dsimp only; rw [hj]
          rw [e]
          exact c_Mo_actR2 l ho hR hfl hfs hk o1 o2 o3 o4 hw hw2 hg hs hj
