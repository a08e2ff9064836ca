def m_lsd (ts : List (Int32 × List Nat)) (i k : Int32) : Int32 := if i < 0 then -1 else match ts[i.toNatClampNeg]? with
  | some t => if k = -1 then t.1 else g_at t.2 k
  | none => -1
theorem m_lsd_some {ts : List (Int32 × List Nat)} {j : Nat} {t : Int32 × List Nat} (hj : j < 2 ^ 31) (h : ts[j]? = some t) (k : Int32) : m_lsd ts (nI j) k = if k = -1 then t.1 else g_at t.2 k := by
  unfold m_lsd
  rw [if_neg (nI_pos hj), nI_clamp hj, h]
theorem m_lsd_none {ts : List (Int32 × List Nat)} {i : Int32} (h : nI ts.length ≤ i) (hl : ts.length < 2 ^ 31) (k : Int32) : m_lsd ts i k = -1 := by
  have h0 : ¬ i < 0 := fun q => absurd (Int32.lt_of_le_of_lt h q) (nI_pos hl)
  obtain ⟨j, hj, rfl⟩ := nI_of h0
  unfold m_lsd
  rw [if_neg h0, nI_clamp hj, List.getElem?_eq_none ((nI_leI hl hj).mp h)]
def m_lst (fs : List g_F) (x : Int32) (k : Nat) : List g_F := ((fs.take k).filter (fun f => decide (f.1.1 = x))).foldl g_ins []
theorem m_lst_eq {fs : List g_F} {x : Int32} {k : Nat} {f : g_F} (h : fs[k]? = some f) (hx : f.1.1 = x) : m_lst fs x (k + 1) = g_ins (m_lst fs x k) f := by
  unfold m_lst
  rw [g_take h, List.filter_append, List.foldl_append, List.filter_cons_of_pos (by simpa using hx)]
  rfl
theorem m_lst_ne {fs : List g_F} {x : Int32} {k : Nat} {f : g_F} (h : fs[k]? = some f) (hx : ¬ f.1.1 = x) : m_lst fs x (k + 1) = m_lst fs x k := by
  unfold m_lst
  rw [g_take h, List.filter_append, List.foldl_append, List.filter_cons_of_neg (by simpa using hx)]
  rfl
/-- what lies in the row of the order: files by their numbers, all of one sort -/
def m_px (G : m_G) (fs : List g_F) (x : Int32) (ps : List (Nat × g_F)) : Prop := ∀ (j : Nat) (p : Nat × g_F), ps[j]? = some p → G 14 j = nI p.1 ∧ fs[p.1]? = some p.2 ∧ p.2.1.1 = x
theorem m_mapins {α β : Type} (g : α → β) : ∀ (ps : List α) (i : Nat) (a : α), (ps.insertIdx i a).map g = (ps.map g).insertIdx i (g a)
  | ps, 0, a => by simp
  | [], i + 1, a => by simp
  | p :: ps, i + 1, a => by simp [m_mapins g ps i a]
theorem m_ue {G G1 : m_G} (hu : ∀ k, k ≠ 14 → G1 k = G k) {e : Nat} {f : g_F} (h : m_e G e f) : m_e G1 e f := by
  unfold m_e at *
  rw [hu 3 (by decide), hu 4 (by decide), hu 5 (by decide), hu 6 (by decide), hu 7 (by decide), hu 8 (by decide)]
  exact h
/-- what a place of the list may change -/
def m_ft (t : Nat) (G G' : m_G) : Prop := (∀ i, i ≠ t → G' 12 i = G 12 i ∧ G' 13 i = G 13 i ∧ ∀ q, q < 100 → G' 15 (100 * i + q) = G 15 (100 * i + q)) ∧ ∀ j, j ≠ 12 → j ≠ 13 → j ≠ 15 → G' j = G j
theorem m_ft.trans {t : Nat} {G G1 G2 : m_G} (h : m_ft t G G1) (h2 : m_ft t G1 G2) : m_ft t G G2 := ⟨fun i hi => ⟨(h2.1 i hi).1.trans (h.1 i hi).1, (h2.1 i hi).2.1.trans (h.1 i hi).2.1, fun q hq => ((h2.1 i hi).2.2 q hq).trans ((h.1 i hi).2.2 q hq)⟩, fun j a b c => (h2.2 j a b c).trans (h.2 j a b c)⟩
theorem m_ft.t {t i : Nat} {G G' : m_G} {x : Int32 × List Nat} (h : m_ft t G G') (hi : i ≠ t) (hx : m_t G i x) : m_t G' i x := ⟨(h.1 i hi).1.trans hx.1, (h.1 i hi).2.1.trans hx.2.1, hx.2.2.1, fun k hk => ((h.1 i hi).2.2 k (by have := hx.2.2.1; omega)).trans (hx.2.2.2.1 k hk), hx.2.2.2.2⟩
theorem m_ft.s12 {t : Nat} {G : m_G} {x : Int32} : m_ft t G (m_up G 12 (upd (G 12) t x)) := ⟨fun i hi => ⟨by rw [m_up_self, pk_un hi], by rw [m_up_ne _ _ (by decide)], fun q _ => by rw [m_up_ne _ _ (by decide)]⟩, fun j h _ _ => m_up_ne _ _ h⟩
theorem m_ft.s13 {t : Nat} {G : m_G} {x : Int32} : m_ft t G (m_up G 13 (upd (G 13) t x)) := ⟨fun i hi => ⟨by rw [m_up_ne _ _ (by decide)], by rw [m_up_self, pk_un hi], fun q _ => by rw [m_up_ne _ _ (by decide)]⟩, fun j _ h _ => m_up_ne _ _ h⟩
theorem m_ft.s15 {t i : Nat} {G : m_G} {x : Int32} (hi : i < 100) : m_ft t G (m_up G 15 (upd (G 15) (100 * t + i) x)) := ⟨fun j hj => ⟨by rw [m_up_ne _ _ (by decide)], by rw [m_up_ne _ _ (by decide)], fun q hq => by rw [m_up_self, pk_un (by omega)]⟩, fun j _ _ h => m_up_ne _ _ h⟩
theorem m_uf {G G1 : m_G} (hu : ∀ j, j ≠ 12 → j ≠ 13 → j ≠ 15 → G1 j = G j) {e : Nat} {f : g_F} (h : m_e G e f) : m_e G1 e f := by
  unfold m_e at *
  rw [hu 3 (by decide) (by decide) (by decide), hu 4 (by decide) (by decide) (by decide), hu 5 (by decide) (by decide) (by decide), hu 6 (by decide) (by decide) (by decide), hu 7 (by decide) (by decide) (by decide), hu 8 (by decide) (by decide) (by decide)]
  exact h
def m_tell (gs : List g_F) : List (Int32 × List Nat) := gs.map (fun f => (f.1.2.1, f.1.2.2))
theorem m_V.tell {G G1 G2 : m_G} {S : m_S} {x : Int32} {ps : List (Nat × g_F)} {gs : List g_F} (hV : m_V G S) (hu : ∀ k, k ≠ 14 → G1 k = G k) (hu2 : ∀ j, j ≠ 12 → j ≠ 13 → j ≠ 15 → G2 j = G1 j) (hp : ps.map Prod.snd = gs) (ht : ∀ (i : Nat) (p : Nat × g_F), ps[i]? = some p → m_t G2 i (p.2.1.2.1, p.2.1.2.2)) (hl : gs.length ≤ 60) : m_V G2 (S.1, S.2.1, S.2.2.1, S.2.2.2.1, S.2.2.2.2.1, S.2.2.2.2.2.1, m_tell gs) := by
  obtain ⟨w1, w2, ⟨w3, w4⟩, ⟨w5, w6⟩, ⟨w7, w8⟩, w9, w10⟩ := hV
  have er : ∀ k, k ≠ 12 → k ≠ 13 → k ≠ 14 → k ≠ 15 → G2 k = G k := fun k a b c d => (hu2 k a b d).trans (hu k c)
  have ee : ∀ e f, m_e G e f → m_e G2 e f := fun e f h => m_uf hu2 (m_ue hu h)
  refine ⟨w1.eq (er 1 (by decide) (by decide) (by decide) (by decide)), w2.eq (er 2 (by decide) (by decide) (by decide) (by decide)), ⟨fun i f h => ee _ f (w3 i f h), w4⟩, ⟨fun i f h => ee _ f (w5 i f h), w6⟩, ⟨fun i o h => ⟨(congrFun (er 9 (by decide) (by decide) (by decide) (by decide)) i).trans (w7 i o h).1, (congrFun (er 10 (by decide) (by decide) (by decide) (by decide)) i).trans (w7 i o h).2.1, (congrFun (er 11 (by decide) (by decide) (by decide) (by decide)) i).trans (w7 i o h).2.2.1, ee _ _ (w7 i o h).2.2.2⟩, w8⟩, fun i t h => ?_, by show (m_tell gs).length ≤ 60; unfold m_tell; rw [List.length_map]; exact hl⟩
  have h : (gs.map (fun f => (f.1.2.1, f.1.2.2)))[i]? = some t := h
  rw [← hp, List.map_map, List.getElem?_map] at h
  cases e : ps[i]? with
  | none => rw [e] at h; cases h
  | some p =>
    rw [e] at h
    have h2 := Option.some.inj h
    rw [← h2]
    exact ht i p e

theorem x_m1 {y : Int32} (h : ¬ y < -1) (h2 : y < 0) : y = -1 := by
  rw [Int32.lt_iff_toInt_lt] at h h2
  have e1 : (-1 : Int32).toInt = -1 := by decide
  have e0 : (0 : Int32).toInt = 0 := by decide
  apply Int32.toInt_inj.mp
  omega
set_option maxHeartbeats 4000000 in
set_option maxRecDepth 100000 in
theorem c_Mo_listed (l : Launch) {D : va_G} {A : Nat → ClassId} {H0 : Heap} {b : Nat} {th : Int32} {S : m_S} (h : m_M D A b th S H0) (x y : Int32) : Met l y_Mo_listed w_Mo_listed { frames := 0, cells := 0, slots := 0, locals := 0 } (x_Pc D A [.ref b, .int x, .int y] H0) (x_Q (some (.int (m_lsd S.2.2.2.2.2.2 x y))) (fun H1 => m_M D A b 0 S H1 ∧ m_K b H0 H1)) 0 0 (m_fq b) := by
  refine Met.ofW (cc := prog_10_method_26_code) (maxL := 3) (ret := (some .int)) (by decide) rfl ?_
  intro p e s m args below meth c s₁ B hml hv
  obtain ⟨rfl, hH, hK, hN⟩ := hv
  obtain ⟨hx, hb, hr, htb, hown, hlocks⟩ := x_start (wd := Cond.code y_Mo_listed prog_10_method_26_code 3 (some .int)) B
  have hl := lv_entry ([.ref b, .int x, .int y]) (n := 3) (Nat.le_of_ble_eq_true rfl)
  rw [lg_entry_eq]
  generalize (lg_sl ([.ref b, .int x, .int y]) ++ List.replicate (3 - (lg_sl ([.ref b, .int x, .int y])).length) Slot.unset).toArray = ls at hl ⊢
  have hl : lv_has ls 3 [(0, .ref b), (1, .int x), (2, .int y)] := hl
  rw [hH]
  obtain ⟨G, ho, hR, hV⟩ := h
  obtain ⟨w1, w2, ⟨w3, w4⟩, ⟨w5, w6⟩, ⟨w7, w8⟩, w9, w10⟩ := id hV
  have hM : m_K b H0 H0 := m_K.refl
  have hL : ∀ q ∈ ([] : List Loc), m_fq b q.base := fun q hq => by cases hq
  refine lv_aload_n hx hb d_Mo_listed_0 rfl (lv_at hl 0 rfl) ?_
  refine lv_iconst (v := 0) hx hb d_Mo_listed_1 (by decide) ?_
  refine x_put (F := m_fq b) (ci := 8) (v := .int 0) (ty := .int) (T := T_Mo) hx hb htb u_Mo t_Mo t_Mo_ok n_Mo hown hK ho hL ⟨Nat.le_refl _, Nat.le_add_right _ _⟩ rfl 0 (by decide) (htb _ mw_463) (fun _ h9 => h9) rfl (by decide +kernel) rfl rfl (Nat.le_of_ble_eq_true rfl) d_Mo_listed_2 (fun Ht locs hf1 hc2 hL => ?_)
  have hf1 : va_at D x_cl (b, .inr (8, [.int 0, .ref (b + 1), .ref (b + 2), .int (nI S.1.length), .int (nI S.2.1.length), .ref (b + 3), .ref (b + 4), .ref (b + 5), .ref (b + 6), .ref (b + 7), .ref (b + 8), .int (nI S.2.2.1.length), .int (nI S.2.2.2.1.length), .int (nI S.2.2.2.2.1.length), .int (nI S.2.2.2.2.2.1), .ref (b + 9), .ref (b + 10), .ref (b + 11), .int (nI S.2.2.2.2.2.2.length), .ref (b + 12), .ref (b + 13), .ref (b + 14), .ref (b + 15)])) Ht := hf1
  have ho : m_O D b 0 (nI S.1.length) (nI S.2.1.length) (nI S.2.2.1.length) (nI S.2.2.2.1.length) (nI S.2.2.2.2.1.length) (nI S.2.2.2.2.2.1) (nI S.2.2.2.2.2.2.length) Ht := hf1
  have hR := hR.but0 hc2
  have hM := hM.trans (m_K.but0 hc2)
  refine lv_iload_n hx hb d_Mo_listed_5 rfl (lv_at hl 1 rfl) ?_
  refine lv_if_lt (tgt := 32) hx hb d_Mo_listed_6 (by decide) (fun c1 => ?_) (fun c1 => ?_)
  · refine lv_iconst (v := (-1)) hx hb d_Mo_listed_32 (by decide) ?_
    exact x_iret hx hb hr hlocks (by unfold m_lsd; rw [if_pos c1]) ⟨m_M.th ho hR hV rfl rfl rfl rfl rfl rfl rfl, hM⟩ hL (Nat.le_refl _) (Nat.le_refl _) d_Mo_listed_33
  · refine lv_iload_n hx hb d_Mo_listed_9 rfl (lv_at hl 1 rfl) ?_
    refine lv_aload_n hx hb d_Mo_listed_10 rfl (lv_at hl 0 rfl) ?_
    refine x_get (ci := 8) (T := T_Mo) hx hb htb u_Mo hown hK ho rfl 18 (by decide) (htb _ mw_481) (fun _ h9 => h9) (v := .int (nI S.2.2.2.2.2.2.length)) rfl d_Mo_listed_11 ?_
    refine lv_icmp_ge (tgt := 32) hx hb d_Mo_listed_14 (by decide) (fun c2 => ?_) (fun c2 => ?_)
    · refine lv_iconst (v := (-1)) hx hb d_Mo_listed_32 (by decide) ?_
      exact x_iret hx hb hr hlocks (by rw [m_lsd_none c2 (by omega)]) ⟨m_M.th ho hR hV rfl rfl rfl rfl rfl rfl rfl, hM⟩ hL (Nat.le_refl _) (Nat.le_refl _) d_Mo_listed_33
    · obtain ⟨j, hj, rfl⟩ := nI_of c1
      have hjl : j < S.2.2.2.2.2.2.length := Nat.lt_of_not_le fun q => c2 (nI_le q hj)
      obtain ⟨t, ht⟩ := g_ex hjl
      obtain ⟨t1, t2, t3, t4, t5⟩ := w9 j t ht
      have hls := m_lsd_some hj ht y
      refine lv_iload_n hx hb d_Mo_listed_17 rfl (lv_at hl 2 rfl) ?_
      refine lv_iconst (v := (-1)) hx hb d_Mo_listed_18 (by decide) ?_
      refine lv_icmp_lt (tgt := 32) hx hb d_Mo_listed_19 (by decide) (fun c3 => ?_) (fun c3 => ?_)
      · refine lv_iconst (v := (-1)) hx hb d_Mo_listed_32 (by decide) ?_
        exact x_iret hx hb hr hlocks (by rw [hls, if_neg (fun e => by rw [e] at c3; exact absurd c3 (by decide)), g_at, if_pos (Int32.lt_trans c3 (by decide))]) ⟨m_M.th ho hR hV rfl rfl rfl rfl rfl rfl rfl, hM⟩ hL (Nat.le_refl _) (Nat.le_refl _) d_Mo_listed_33
      · refine lv_iload_n hx hb d_Mo_listed_22 rfl (lv_at hl 2 rfl) ?_
        refine lv_aload_n hx hb d_Mo_listed_23 rfl (lv_at hl 0 rfl) ?_
        refine x_get (ci := 8) (T := T_Mo) hx hb htb u_Mo hown hK ho rfl 20 (by decide) (htb _ mw_483) (fun _ h9 => h9) (v := .ref (b + 13)) rfl d_Mo_listed_24 ?_
        refine lv_iload_n hx hb d_Mo_listed_27 rfl (lv_at hl 1 rfl) ?_
        refine m_ild hx hb hK hR 13 (by decide) (by decide) rfl (i := j) (show _ < 60 by omega) d_Mo_listed_28 ?_
        refine x_top (y := nI t.2.length) (t2) ?_
        refine lv_icmp_lt (tgt := 34) hx hb d_Mo_listed_29 (by decide) (fun c4 => ?_) (fun c4 => ?_)
        · refine lv_iload_n hx hb d_Mo_listed_34 rfl (lv_at hl 2 rfl) ?_
          refine lv_iconst (v := (-1)) hx hb d_Mo_listed_35 (by decide) ?_
          refine lv_icmp_ne (tgt := 48) hx hb d_Mo_listed_36 (by decide) (fun c5 => ?_) (fun c5 => ?_)
          · have hy0 : ¬ y < 0 := fun q => c5 (x_m1 c3 q)
            obtain ⟨i, hi, rfl⟩ := nI_of hy0
            have hil : i < t.2.length := (nI_ltI hi (by omega)).mp c4
            refine lv_aload_n hx hb d_Mo_listed_48 rfl (lv_at hl 0 rfl) ?_
            refine x_get (ci := 8) (T := T_Mo) hx hb htb u_Mo hown hK ho rfl 22 (by decide) (htb _ mw_485) (fun _ h9 => h9) (v := .ref (b + 15)) rfl d_Mo_listed_49 ?_
            refine lv_bipush (v := 100) hx hb d_Mo_listed_52 (by decide) ?_
            refine lv_iload_n hx hb d_Mo_listed_54 rfl (lv_at hl 1 rfl) ?_
            refine lv_imul hx hb d_Mo_listed_55 ?_
            refine lv_iload_n hx hb d_Mo_listed_56 rfl (lv_at hl 2 rfl) ?_
            refine lv_iadd hx hb d_Mo_listed_57 ?_
            refine x_top (y := nI (100 * j + i)) (by rw [show (100 : Int32) = nI 100 from rfl, pk_mul, nI_add]) ?_
            refine m_bld hx hb hK hR 15 (by decide) (by decide) rfl (i := 100 * j + i) (show _ < 6000 by omega) d_Mo_listed_58 ?_
            refine x_top (y := sb_b (t.2.getD i 0)) (t4 i hil) ?_
            refine lv_sipush (v := 255) hx hb d_Mo_listed_59 (by decide) ?_
            refine lv_iand hx hb d_Mo_listed_62 ?_
            refine x_top (y := nI (t.2.getD i 0)) (g_and t5 i) ?_
            exact x_iret hx hb hr hlocks (by rw [hls, if_neg c5, g_at, if_neg hy0, if_neg (nI_ge hil (by omega)), nI_clamp hi]) ⟨m_M.th ho hR hV rfl rfl rfl rfl rfl rfl rfl, hM⟩ hL (Nat.le_refl _) (Nat.le_refl _) d_Mo_listed_63
          · refine lv_aload_n hx hb d_Mo_listed_39 rfl (lv_at hl 0 rfl) ?_
            refine x_get (ci := 8) (T := T_Mo) hx hb htb u_Mo hown hK ho rfl 19 (by decide) (htb _ mw_482) (fun _ h9 => h9) (v := .ref (b + 12)) rfl d_Mo_listed_40 ?_
            refine lv_iload_n hx hb d_Mo_listed_43 rfl (lv_at hl 1 rfl) ?_
            refine m_ild hx hb hK hR 12 (by decide) (by decide) rfl (i := j) (show _ < 60 by omega) d_Mo_listed_44 ?_
            refine x_top (y := t.1) (t1) ?_
            refine lv_goto (tgt := 63) hx hb d_Mo_listed_45 (by decide) ?_
            exact x_iret hx hb hr hlocks (by rw [hls, if_pos c5]) ⟨m_M.th ho hR hV rfl rfl rfl rfl rfl rfl rfl, hM⟩ hL (Nat.le_refl _) (Nat.le_refl _) d_Mo_listed_63
        · refine lv_iconst (v := (-1)) hx hb d_Mo_listed_32 (by decide) ?_
          have hy0 : ¬ y < 0 := fun q => c4 (Int32.lt_of_lt_of_le q (nI_pos' (by omega)))
          exact x_iret hx hb hr hlocks (by rw [hls, if_neg (fun e => by rw [e] at hy0; exact hy0 (by decide)), g_at, if_neg hy0, if_pos (Int32.not_lt.mp c4)]) ⟨m_M.th ho hR hV rfl rfl rfl rfl rfl rfl rfl, hM⟩ hL (Nat.le_refl _) (Nat.le_refl _) d_Mo_listed_33
set_option maxHeartbeats 4000000 in
set_option maxRecDepth 100000 in
theorem c_Mo_listN (l : Launch) {D : va_G} {A : Nat → ClassId} {H0 : Heap} {b : Nat} {th : Int32} {S : m_S} (h : m_M D A b th S H0) {x : Int32} (hx0 : ¬ g_sort x) : Met l y_Mo_list w_Mo_list { frames := 2, cells := 0, slots := 0, locals := 46 } (x_Pc D A [.ref b, .int x] H0) (x_Q (some (.int (-1))) (fun H1 => m_M D A b 0 S H1 ∧ m_K b H0 H1)) 0 0 (m_fq b) := by
  refine Met.ofW (cc := prog_10_method_25_code) (maxL := 5) (ret := (some .int)) (by decide) rfl ?_
  intro p e s m args below meth c s₁ B hml hv
  obtain ⟨rfl, hH, hK, hN⟩ := hv
  obtain ⟨hx, hb, hr, htb, hown, hlocks⟩ := x_start (wd := Cond.code y_Mo_list prog_10_method_25_code 5 (some .int)) B
  have hl := lv_entry ([.ref b, .int x]) (n := 5) (Nat.le_of_ble_eq_true rfl)
  rw [lg_entry_eq]
  generalize (lg_sl ([.ref b, .int x]) ++ List.replicate (5 - (lg_sl ([.ref b, .int x])).length) Slot.unset).toArray = ls at hl ⊢
  have hl : lv_has ls 5 [(0, .ref b), (1, .int x)] := hl
  rw [hH]
  obtain ⟨G, ho, hR, hV⟩ := h
  obtain ⟨w1, w2, ⟨w3, w4⟩, ⟨w5, w6⟩, ⟨w7, w8⟩, w9, w10⟩ := id hV
  have hM : m_K b H0 H0 := m_K.refl
  have hL : ∀ q ∈ ([] : List Loc), m_fq b q.base := fun q hq => by cases hq
  refine lv_aload_n hx hb d_Mo_list_0 rfl (lv_at hl 0 rfl) ?_
  refine lv_iconst (v := 0) hx hb d_Mo_list_1 (by decide) ?_
  refine x_put (F := m_fq b) (ci := 8) (v := .int 0) (ty := .int) (T := T_Mo) hx hb htb u_Mo t_Mo t_Mo_ok n_Mo hown hK ho hL ⟨Nat.le_refl _, Nat.le_add_right _ _⟩ rfl 0 (by decide) (htb _ mw_463) (fun _ h9 => h9) rfl (by decide +kernel) rfl rfl (Nat.le_of_ble_eq_true rfl) d_Mo_list_2 (fun Ht locs hf3 hc4 hL => ?_)
  have hf3 : va_at D x_cl (b, .inr (8, [.int 0, .ref (b + 1), .ref (b + 2), .int (nI S.1.length), .int (nI S.2.1.length), .ref (b + 3), .ref (b + 4), .ref (b + 5), .ref (b + 6), .ref (b + 7), .ref (b + 8), .int (nI S.2.2.1.length), .int (nI S.2.2.2.1.length), .int (nI S.2.2.2.2.1.length), .int (nI S.2.2.2.2.2.1), .ref (b + 9), .ref (b + 10), .ref (b + 11), .int (nI S.2.2.2.2.2.2.length), .ref (b + 12), .ref (b + 13), .ref (b + 14), .ref (b + 15)])) Ht := hf3
  have ho : m_O D b 0 (nI S.1.length) (nI S.2.1.length) (nI S.2.2.1.length) (nI S.2.2.2.1.length) (nI S.2.2.2.2.1.length) (nI S.2.2.2.2.2.1) (nI S.2.2.2.2.2.2.length) Ht := hf3
  have hR := hR.but0 hc4
  have hM := hM.trans (m_K.but0 hc4)
  refine lv_iload_n hx hb d_Mo_list_5 rfl (lv_at hl 1 rfl) ?_
  refine lv_if_lt (tgt := 15) hx hb d_Mo_list_6 (by decide) (fun c1 => ?_) (fun c1 => ?_)
  · refine lv_iconst (v := (-1)) hx hb d_Mo_list_15 (by decide) ?_
    exact x_iret hx hb hr hlocks rfl ⟨m_M.th ho hR hV rfl rfl rfl rfl rfl rfl rfl, hM⟩ hL (Nat.le_refl _) (Nat.le_refl _) d_Mo_list_16
  · refine lv_iload_n hx hb d_Mo_list_9 rfl (lv_at hl 1 rfl) ?_
    refine lv_bipush (v := 7) hx hb d_Mo_list_10 (by decide) ?_
    refine lv_icmp_lt (tgt := 17) hx hb d_Mo_list_12 (by decide) (fun c9 => absurd c9 (fun q => hx0 ⟨c1, q⟩)) (fun _ => ?_)
    refine lv_iconst (v := (-1)) hx hb d_Mo_list_15 (by decide) ?_
    exact x_iret hx hb hr hlocks rfl ⟨m_M.th ho hR hV rfl rfl rfl rfl rfl rfl rfl, hM⟩ hL (Nat.le_refl _) (Nat.le_refl _) d_Mo_list_16
set_option maxHeartbeats 4000000 in
set_option maxRecDepth 100000 in
theorem c_Mo_list (l : Launch) {D : va_G} {A : Nat → ClassId} {H0 : Heap} {b : Nat} {th : Int32} {S : m_S} (h : m_M D A b th S H0) {x : Int32} (hx0 : g_sort x) : Met l y_Mo_list w_Mo_list { frames := 2, cells := 0, slots := 0, locals := 46 } (x_Pc D A [.ref b, .int x] H0) (x_Q (some (.int (nI (m_lst S.2.2.1 x S.2.2.1.length).length))) (fun H1 => m_M D A b 0 ((S.1, S.2.1, S.2.2.1, S.2.2.2.1, S.2.2.2.2.1, S.2.2.2.2.2.1, m_tell (m_lst S.2.2.1 x S.2.2.1.length))) H1 ∧ m_K b H0 H1)) 0 0 (m_fq b) := by
  refine Met.ofW (cc := prog_10_method_25_code) (maxL := 5) (ret := (some .int)) (by decide) rfl ?_
  intro p e s m args below meth c s₁ B hml hv
  obtain ⟨rfl, hH, hK, hN⟩ := hv
  obtain ⟨hx, hb, hr, htb, hown, hlocks⟩ := x_start (wd := Cond.code y_Mo_list prog_10_method_25_code 5 (some .int)) B
  have hl := lv_entry ([.ref b, .int x]) (n := 5) (Nat.le_of_ble_eq_true rfl)
  rw [lg_entry_eq]
  generalize (lg_sl ([.ref b, .int x]) ++ List.replicate (5 - (lg_sl ([.ref b, .int x])).length) Slot.unset).toArray = ls at hl ⊢
  have hl : lv_has ls 5 [(0, .ref b), (1, .int x)] := hl
  rw [hH]
  obtain ⟨G, ho, hR, hV⟩ := h
  obtain ⟨w1, w2, ⟨w3, w4⟩, ⟨w5, w6⟩, ⟨w7, w8⟩, w9, w10⟩ := id hV
  have hM : m_K b H0 H0 := m_K.refl
  have hL : ∀ q ∈ ([] : List Loc), m_fq b q.base := fun q hq => by cases hq
  refine lv_aload_n hx hb d_Mo_list_0 rfl (lv_at hl 0 rfl) ?_
  refine lv_iconst (v := 0) hx hb d_Mo_list_1 (by decide) ?_
  refine x_put (F := m_fq b) (ci := 8) (v := .int 0) (ty := .int) (T := T_Mo) hx hb htb u_Mo t_Mo t_Mo_ok n_Mo hown hK ho hL ⟨Nat.le_refl _, Nat.le_add_right _ _⟩ rfl 0 (by decide) (htb _ mw_463) (fun _ h9 => h9) rfl (by decide +kernel) rfl rfl (Nat.le_of_ble_eq_true rfl) d_Mo_list_2 (fun Ht locs hf5 hc6 hL => ?_)
  have hf5 : va_at D x_cl (b, .inr (8, [.int 0, .ref (b + 1), .ref (b + 2), .int (nI S.1.length), .int (nI S.2.1.length), .ref (b + 3), .ref (b + 4), .ref (b + 5), .ref (b + 6), .ref (b + 7), .ref (b + 8), .int (nI S.2.2.1.length), .int (nI S.2.2.2.1.length), .int (nI S.2.2.2.2.1.length), .int (nI S.2.2.2.2.2.1), .ref (b + 9), .ref (b + 10), .ref (b + 11), .int (nI S.2.2.2.2.2.2.length), .ref (b + 12), .ref (b + 13), .ref (b + 14), .ref (b + 15)])) Ht := hf5
  have ho : m_O D b 0 (nI S.1.length) (nI S.2.1.length) (nI S.2.2.1.length) (nI S.2.2.2.1.length) (nI S.2.2.2.2.1.length) (nI S.2.2.2.2.2.1) (nI S.2.2.2.2.2.2.length) Ht := hf5
  have hR := hR.but0 hc6
  have hM := hM.trans (m_K.but0 hc6)
  refine lv_iload_n hx hb d_Mo_list_5 rfl (lv_at hl 1 rfl) ?_
  refine lv_if_lt (tgt := 15) hx hb d_Mo_list_6 (by decide) (fun c9 => absurd c9 hx0.1) (fun _ => ?_)
  refine lv_iload_n hx hb d_Mo_list_9 rfl (lv_at hl 1 rfl) ?_
  refine lv_bipush (v := 7) hx hb d_Mo_list_10 (by decide) ?_
  refine lv_icmp_lt (tgt := 17) hx hb d_Mo_list_12 (by decide) (fun _ => ?_) (fun c9 => absurd hx0.2 c9)
  refine lv_aload_n hx hb d_Mo_list_17 rfl (lv_at hl 0 rfl) ?_
  refine lv_iconst (v := 0) hx hb d_Mo_list_18 (by decide) ?_
  refine x_put (F := m_fq b) (ci := 8) (v := .int 0) (ty := .int) (T := T_Mo) hx hb htb u_Mo t_Mo t_Mo_ok n_Mo hown hK ho hL ⟨Nat.le_refl _, Nat.le_add_right _ _⟩ rfl 18 (by decide) (htb _ mw_481) (fun _ h9 => h9) rfl (by decide +kernel) rfl rfl (Nat.le_of_ble_eq_true rfl) d_Mo_list_19 (fun Hu locs hf7 hc8 hL => ?_)
  have hf7 : va_at D x_cl (b, .inr (8, [.int 0, .ref (b + 1), .ref (b + 2), .int (nI S.1.length), .int (nI S.2.1.length), .ref (b + 3), .ref (b + 4), .ref (b + 5), .ref (b + 6), .ref (b + 7), .ref (b + 8), .int (nI S.2.2.1.length), .int (nI S.2.2.2.1.length), .int (nI S.2.2.2.2.1.length), .int (nI S.2.2.2.2.2.1), .ref (b + 9), .ref (b + 10), .ref (b + 11), .int 0, .ref (b + 12), .ref (b + 13), .ref (b + 14), .ref (b + 15)])) Hu := hf7
  have ho : m_O D b 0 (nI S.1.length) (nI S.2.1.length) (nI S.2.2.1.length) (nI S.2.2.2.1.length) (nI S.2.2.2.2.1.length) (nI S.2.2.2.2.2.1) 0 Hu := hf7
  have hR := hR.but0 hc8
  have hM := hM.trans (m_K.but0 hc8)
  refine lv_iconst (v := 0) hx hb d_Mo_list_22 (by decide) ?_
  refine lv_istore_n (lv' := [(2, .int 0), (0, .ref b), (1, .int x)]) hx hb d_Mo_list_23 rfl hl (by decide) rfl (fun ls hl => ?_)
  refine x_loop (σ := Nat × m_G × Heap × List Loc × Array Slot) (fun z => F0 m 24 z.2.2.2.2 []) (fun z => z.2.2.1) (fun z => z.2.2.2.1) (fun z => z.1 ≤ S.2.2.1.length ∧ m_O D b 0 (nI S.1.length) (nI S.2.1.length) (nI S.2.2.1.length) (nI S.2.2.2.1.length) (nI S.2.2.2.2.1.length) (nI S.2.2.2.2.2.1) (nI (m_lst S.2.2.1 x z.1).length) z.2.2.1 ∧ m_R D A b z.2.1 z.2.2.1 ∧ m_K b H0 z.2.2.1 ∧ (∀ q ∈ z.2.2.2.1, m_fq b q.base) ∧ (∃ ps : List (Nat × g_F), ps.map Prod.snd = m_lst S.2.2.1 x z.1 ∧ m_px z.2.1 S.2.2.1 x ps ∧ ps.length ≤ z.1) ∧ (∀ k, k ≠ 14 → z.2.1 k = G k) ∧ lv_has z.2.2.2.2 5 [(2, .int (nI z.1)), (0, .ref b), (1, .int x)]) (fun z => S.2.2.1.length - z.1) (s0 := (0, G, Hu, _, ls)) ⟨Nat.zero_le _, ho, hR, hM, hL, ⟨[], rfl, (fun j p h => by simp at h), Nat.zero_le _⟩, (fun _ _ => rfl), (lv_sub hl [0, 1, 2] rfl)⟩ ?_
  clear hR ho hM hL hl
  rintro ⟨k, G5, H, locs, ls⟩ ⟨hk, ho, hR, hM, hL, hE, hu, hl⟩ ih
  dsimp only at hk ho hR hM hL hE hu hl ih ⊢
  obtain ⟨ps, hps, hpx, hpl⟩ := hE
  have hpsl : (m_lst S.2.2.1 x k).length = ps.length := by rw [← hps, List.length_map]
  refine lv_iload_n hx hb d_Mo_list_24 rfl (lv_at hl 0 rfl) ?_
  refine lv_aload_n hx hb d_Mo_list_25 rfl (lv_at hl 1 rfl) ?_
  refine x_get (ci := 8) (T := T_Mo) hx hb htb u_Mo hown hK ho rfl 11 (by decide) (htb _ mw_474) (fun _ h9 => h9) (v := .int (nI S.2.2.1.length)) rfl d_Mo_list_26 ?_
  refine lv_icmp_ge (tgt := 110) hx hb d_Mo_list_29 (by decide) (fun c1 => ?_) (fun c1 => ?_)
  · have e1 : k = S.2.2.1.length := Nat.le_antisymm hk (Nat.le_of_not_lt fun q => absurd c1 (nI_ge q (by omega)))
    subst e1
    clear ih
    refine lv_iconst (v := 0) hx hb d_Mo_list_110 (by decide) ?_
    refine lv_istore_n (lv' := [(2, .int 0), (0, .ref b), (1, .int x)]) hx hb d_Mo_list_111 rfl hl (by decide) rfl (fun ls hl => ?_)
    refine x_loop (σ := Nat × m_G × Heap × List Loc × Array Slot) (fun z => F0 m 112 z.2.2.2.2 []) (fun z => z.2.2.1) (fun z => z.2.2.2.1) (fun z => z.1 ≤ ps.length ∧ m_O D b 0 (nI S.1.length) (nI S.2.1.length) (nI S.2.2.1.length) (nI S.2.2.2.1.length) (nI S.2.2.2.2.1.length) (nI S.2.2.2.2.2.1) (nI (m_lst S.2.2.1 x S.2.2.1.length).length) z.2.2.1 ∧ m_R D A b z.2.1 z.2.2.1 ∧ m_K b H0 z.2.2.1 ∧ (∀ q ∈ z.2.2.2.1, m_fq b q.base) ∧ (∀ (i : Nat) (p : Nat × g_F), i < z.1 → ps[i]? = some p → m_t z.2.1 i (p.2.1.2.1, p.2.1.2.2)) ∧ (∀ j, j ≠ 12 → j ≠ 13 → j ≠ 15 → z.2.1 j = G5 j) ∧ lv_has z.2.2.2.2 5 [(2, .int (nI z.1)), (0, .ref b), (1, .int x)]) (fun z => ps.length - z.1) (s0 := (0, G5, H, _, ls)) ⟨Nat.zero_le _, ho, hR, hM, hL, (fun i p q => absurd q (Nat.not_lt_zero i)), (fun _ _ _ _ => rfl), (lv_sub hl [0, 1, 2] rfl)⟩ ?_
    clear hR ho hM hL hl
    rintro ⟨k, G6, H, locs, ls⟩ ⟨hk, ho, hR, hM, hL, ht, hu2, hl⟩ ih
    dsimp only at hk ho hR hM hL ht hu2 hl ih ⊢
    refine lv_iload_n hx hb d_Mo_list_112 rfl (lv_at hl 0 rfl) ?_
    refine lv_aload_n hx hb d_Mo_list_113 rfl (lv_at hl 1 rfl) ?_
    refine x_get (ci := 8) (T := T_Mo) hx hb htb u_Mo hown hK ho rfl 18 (by decide) (htb _ mw_481) (fun _ h9 => h9) (v := .int (nI (m_lst S.2.2.1 x S.2.2.1.length).length)) rfl d_Mo_list_114 ?_
    refine lv_icmp_ge (tgt := 201) hx hb d_Mo_list_117 (by decide) (fun c2 => ?_) (fun c2 => ?_)
    · have e1 : k = ps.length := Nat.le_antisymm hk (Nat.le_of_not_lt fun q => absurd c2 (by rw [hpsl]; exact nI_ge q (by omega)))
      subst e1
      refine lv_aload_n hx hb d_Mo_list_201 rfl (lv_at hl 1 rfl) ?_
      refine x_get (ci := 8) (T := T_Mo) hx hb htb u_Mo hown hK ho rfl 18 (by decide) (htb _ mw_481) (fun _ h9 => h9) (v := .int (nI (m_lst S.2.2.1 x S.2.2.1.length).length)) rfl d_Mo_list_202 ?_
      exact x_iret hx hb hr hlocks rfl ⟨m_M.th ho hR (hV.tell (x := x) hu hu2 hps (fun i p h => ht i p (List.getElem?_eq_some_iff.mp h).1 h) (by rw [hpsl]; omega)) rfl rfl rfl rfl rfl rfl (by show _ = nI (m_tell _).length; unfold m_tell; rw [List.length_map]), hM⟩ hL (Nat.le_refl _) (Nat.le_refl _) d_Mo_list_205
    · have hlt : k < ps.length := Nat.lt_of_not_le fun q => c2 (by rw [hpsl]; exact nI_le q (by omega))
      obtain ⟨⟨n, f⟩, hpp⟩ := g_ex hlt
      obtain ⟨x1, x2, x3⟩ := hpx k _ hpp
      dsimp only at x1 x2 x3
      have hnl := (List.getElem?_eq_some_iff.mp x2).1
      have hfe : m_e G6 n f := m_uf hu2 (m_ue hu (w3 n f x2))
      obtain ⟨⟨f1, f2⟩, ⟨f3, f4, f5, f6⟩, -⟩ := id hfe
      refine lv_aload_n hx hb d_Mo_list_120 rfl (lv_at hl 1 rfl) ?_
      refine x_get (ci := 8) (T := T_Mo) hx hb htb u_Mo hown hK ho rfl 21 (by decide) (htb _ mw_484) (fun _ h9 => h9) (v := .ref (b + 14)) rfl d_Mo_list_121 ?_
      refine lv_iload_n hx hb d_Mo_list_124 rfl (lv_at hl 0 rfl) ?_
      refine m_ild hx hb hK hR 14 (by decide) (by decide) rfl (i := k) (show _ < 60 by omega) d_Mo_list_125 ?_
      refine x_top (y := nI n) ((congrFun (hu2 14 (by decide) (by decide) (by decide)) k).trans x1) ?_
      refine lv_istore_n (lv' := [(3, .int (nI n)), (2, .int (nI k)), (0, .ref b), (1, .int x)]) hx hb d_Mo_list_126 rfl hl (by decide) rfl (fun ls hl => ?_)
      refine lv_aload_n hx hb d_Mo_list_127 rfl (lv_at hl 2 rfl) ?_
      refine x_get (ci := 8) (T := T_Mo) hx hb htb u_Mo hown hK ho rfl 19 (by decide) (htb _ mw_482) (fun _ h9 => h9) (v := .ref (b + 12)) rfl d_Mo_list_128 ?_
      refine lv_iload_n hx hb d_Mo_list_131 rfl (lv_at hl 1 rfl) ?_
      refine lv_aload_n hx hb d_Mo_list_132 rfl (lv_at hl 2 rfl) ?_
      refine x_get (ci := 8) (T := T_Mo) hx hb htb u_Mo hown hK ho rfl 6 (by decide) (htb _ mw_469) (fun _ h9 => h9) (v := .ref (b + 4)) rfl d_Mo_list_133 ?_
      refine lv_iload_n hx hb d_Mo_list_136 rfl (lv_at hl 0 rfl) ?_
      refine m_ild hx hb hK hR 4 (by decide) (by decide) rfl (i := n) (show _ < 320 by omega) d_Mo_list_137 ?_
      refine x_top (y := f.1.2.1) (f2) ?_
      refine m_ist hx hb hK ho hM hL hR 12 (by decide) (by decide) rfl (i := k) (show _ < 60 by omega) d_Mo_list_138 (fun H7 locs ho hM hL hR => ?_)
      obtain ⟨G7, eG7⟩ : ∃ Gq : m_G, Gq = m_up G6 12 (upd (G6 12) k f.1.2.1) := ⟨_, rfl⟩
      rw [← eG7] at hR
      have uG7 : ∀ j, j ≠ 12 → G7 j = G6 j := fun j h => by rw [eG7]; exact m_up_ne _ _ h
      have sG7 : G7 12 = upd (G6 12) k f.1.2.1 := by rw [eG7]; exact m_up_self _ _ _
      refine lv_aload_n hx hb d_Mo_list_139 rfl (lv_at hl 2 rfl) ?_
      refine x_get (ci := 8) (T := T_Mo) hx hb htb u_Mo hown hK ho rfl 20 (by decide) (htb _ mw_483) (fun _ h9 => h9) (v := .ref (b + 13)) rfl d_Mo_list_140 ?_
      refine lv_iload_n hx hb d_Mo_list_143 rfl (lv_at hl 1 rfl) ?_
      refine lv_aload_n hx hb d_Mo_list_144 rfl (lv_at hl 2 rfl) ?_
      refine x_get (ci := 8) (T := T_Mo) hx hb htb u_Mo hown hK ho rfl 7 (by decide) (htb _ mw_470) (fun _ h9 => h9) (v := .ref (b + 5)) rfl d_Mo_list_145 ?_
      refine lv_iload_n hx hb d_Mo_list_148 rfl (lv_at hl 0 rfl) ?_
      refine m_ild hx hb hK hR 5 (by decide) (by decide) rfl (i := n) (show _ < 320 by omega) d_Mo_list_149 ?_
      refine x_top (y := nI f.1.2.2.length) ((congrFun (uG7 5 (by decide)) n).trans f3) ?_
      refine m_ist hx hb hK ho hM hL hR 13 (by decide) (by decide) rfl (i := k) (show _ < 60 by omega) d_Mo_list_150 (fun H8 locs ho hM hL hR => ?_)
      obtain ⟨G8, eG8⟩ : ∃ Gq : m_G, Gq = m_up G7 13 (upd (G7 13) k (nI f.1.2.2.length)) := ⟨_, rfl⟩
      rw [← eG8] at hR
      have uG8 : ∀ j, j ≠ 13 → G8 j = G7 j := fun j h => by rw [eG8]; exact m_up_ne _ _ h
      have sG8 : G8 13 = upd (G7 13) k (nI f.1.2.2.length) := by rw [eG8]; exact m_up_self _ _ _
      have hft : m_ft k G6 G8 := by
        refine m_ft.trans (G1 := G7) ?_ ?_
        · rw [eG7]; exact m_ft.s12
        · rw [eG8]; exact m_ft.s13
      have h12 : G8 12 k = f.1.2.1 := by rw [uG8 12 (by decide), sG7, pk_us]
      have h13 : G8 13 k = nI f.1.2.2.length := by rw [sG8, pk_us]
      clear uG7 sG7 eG7 uG8 sG8 eG8
      have ih0 := ih
      have hk0 := hk
      clear ih hk
      refine lv_iconst (v := 0) hx hb d_Mo_list_151 (by decide) ?_
      refine lv_istore (lv' := [(4, .int 0), (3, .int (nI n)), (2, .int (nI k)), (0, .ref b), (1, .int x)]) hx hb d_Mo_list_152 hl (by decide) rfl (fun ls hl => ?_)
      refine x_loop (σ := Nat × m_G × Heap × List Loc × Array Slot) (fun z => F0 m 154 z.2.2.2.2 []) (fun z => z.2.2.1) (fun z => z.2.2.2.1) (fun z => z.1 ≤ f.1.2.2.length ∧ m_O D b 0 (nI S.1.length) (nI S.2.1.length) (nI S.2.2.1.length) (nI S.2.2.2.1.length) (nI S.2.2.2.2.1.length) (nI S.2.2.2.2.2.1) (nI (m_lst S.2.2.1 x S.2.2.1.length).length) z.2.2.1 ∧ m_R D A b z.2.1 z.2.2.1 ∧ m_K b H0 z.2.2.1 ∧ (∀ q ∈ z.2.2.2.1, m_fq b q.base) ∧ m_ft k G6 z.2.1 ∧ z.2.1 12 k = f.1.2.1 ∧ z.2.1 13 k = nI f.1.2.2.length ∧ (∀ q, q < z.1 → z.2.1 15 (100 * k + q) = sb_b (f.1.2.2.getD q 0)) ∧ lv_has z.2.2.2.2 5 [(4, .int (nI z.1)), (3, .int (nI n)), (2, .int (nI k)), (0, .ref b), (1, .int x)]) (fun z => f.1.2.2.length - z.1) (s0 := (0, G8, H8, _, ls)) ⟨Nat.zero_le _, ho, hR, hM, hL, hft, h12, h13, (fun q hq => absurd hq (Nat.not_lt_zero q)), (lv_sub hl [0, 1, 2, 3, 4] rfl)⟩ ?_
      clear hR ho hM hL hl
      rintro ⟨i, G9, H9, locs, ls⟩ ⟨hk, ho, hR, hM, hL, hft, h12, h13, hqp, hl⟩ ih
      dsimp only at hk ho hR hM hL hft h12 h13 hqp hl ih ⊢
      obtain ⟨⟨f1, f2⟩, ⟨f3, f4, f5, f6⟩, -⟩ := m_uf hft.2 hfe
      refine lv_iload hx hb d_Mo_list_154 (lv_at hl 0 rfl) ?_
      refine lv_aload_n hx hb d_Mo_list_156 rfl (lv_at hl 3 rfl) ?_
      refine x_get (ci := 8) (T := T_Mo) hx hb htb u_Mo hown hK ho rfl 7 (by decide) (htb _ mw_470) (fun _ h9 => h9) (v := .ref (b + 5)) rfl d_Mo_list_157 ?_
      refine lv_iload_n hx hb d_Mo_list_160 rfl (lv_at hl 1 rfl) ?_
      refine m_ild hx hb hK hR 5 (by decide) (by decide) rfl (i := n) (show _ < 320 by omega) d_Mo_list_161 ?_
      refine x_top (y := nI f.1.2.2.length) (f3) ?_
      refine lv_icmp_ge (tgt := 195) hx hb d_Mo_list_162 (by decide) (fun c3 => ?_) (fun c3 => ?_)
      · have e1 : i = f.1.2.2.length := Nat.le_antisymm hk (Nat.le_of_not_lt fun q => absurd c3 (nI_ge q (by omega)))
        refine lv_iinc (v := nI (k + 1)) (lv' := [(2, .int (nI (k + 1))), (4, .int (nI i)), (3, .int (nI n)), (0, .ref b), (1, .int x)]) hx hb d_Mo_list_195 hl (k := 2) rfl (nI_1 k) (by decide) rfl (fun ls hl => ?_)
        refine lv_goto (tgt := 112) hx hb d_Mo_list_198 (by decide) ?_
        refine ih0 (k + 1, G9, H9, locs, ls) ⟨hlt, ho, hR, hM, hL, fun j p q q2 => ?_, fun j h1 h2 h3 => (hft.2 j h1 h2 h3).trans (hu2 j h1 h2 h3), (lv_sub hl [0, 3, 4] rfl)⟩ (by show ps.length - (k + 1) < ps.length - k; omega)
        have q : j < k + 1 := q
        rcases Nat.eq_or_lt_of_le (Nat.le_of_lt_succ q) with e | e
        · subst e; rw [hpp] at q2; cases q2; exact ⟨h12, h13, f4, fun q hq => hqp q (by rw [e1]; exact hq), f6⟩
        · exact hft.t (by omega) (ht j p e q2)
      · have hil : i < f.1.2.2.length := Nat.lt_of_not_le fun q => absurd (nI_le q (by omega)) c3
        refine lv_aload_n hx hb d_Mo_list_165 rfl (lv_at hl 3 rfl) ?_
        refine x_get (ci := 8) (T := T_Mo) hx hb htb u_Mo hown hK ho rfl 22 (by decide) (htb _ mw_485) (fun _ h9 => h9) (v := .ref (b + 15)) rfl d_Mo_list_166 ?_
        refine lv_bipush (v := 100) hx hb d_Mo_list_169 (by decide) ?_
        refine lv_iload_n hx hb d_Mo_list_171 rfl (lv_at hl 2 rfl) ?_
        refine lv_imul hx hb d_Mo_list_172 ?_
        refine lv_iload hx hb d_Mo_list_173 (lv_at hl 0 rfl) ?_
        refine lv_iadd hx hb d_Mo_list_175 ?_
        refine x_top (y := nI (100 * k + i)) (by rw [show (100 : Int32) = nI 100 from rfl, pk_mul, nI_add]) ?_
        refine lv_aload_n hx hb d_Mo_list_176 rfl (lv_at hl 3 rfl) ?_
        refine x_get (ci := 8) (T := T_Mo) hx hb htb u_Mo hown hK ho rfl 9 (by decide) (htb _ mw_472) (fun _ h9 => h9) (v := .ref (b + 7)) rfl d_Mo_list_177 ?_
        refine lv_bipush (v := 100) hx hb d_Mo_list_180 (by decide) ?_
        refine lv_iload_n hx hb d_Mo_list_182 rfl (lv_at hl 1 rfl) ?_
        refine lv_imul hx hb d_Mo_list_183 ?_
        refine lv_iload hx hb d_Mo_list_184 (lv_at hl 0 rfl) ?_
        refine lv_iadd hx hb d_Mo_list_186 ?_
        refine x_top (y := nI (100 * n + i)) (by rw [show (100 : Int32) = nI 100 from rfl, pk_mul, nI_add]) ?_
        refine m_bld hx hb hK hR 7 (by decide) (by decide) rfl (i := 100 * n + i) (show _ < 32000 by omega) d_Mo_list_187 ?_
        refine x_top (y := sb_b (f.1.2.2.getD i 0)) (f5 i hil) ?_
        refine m_bst hx hb hK ho hM hL hR 15 (by decide) (by decide) rfl (i := 100 * k + i) (show _ < 6000 by omega) (m_nar _) d_Mo_list_188 (fun H7b locs ho hM hL hR => ?_)
        obtain ⟨G7b, eG7b⟩ : ∃ Gq : m_G, Gq = m_up G9 15 (upd (G9 15) (100 * k + i) (sb_b (f.1.2.2.getD i 0))) := ⟨_, rfl⟩
        rw [← eG7b] at hR
        have uG7b : ∀ j, j ≠ 15 → G7b j = G9 j := fun j h => by rw [eG7b]; exact m_up_ne _ _ h
        have sG7b : G7b 15 = upd (G9 15) (100 * k + i) (sb_b (f.1.2.2.getD i 0)) := by rw [eG7b]; exact m_up_self _ _ _
        have hft7 : m_ft k G9 G7b := by rw [eG7b]; exact m_ft.s15 (by omega)
        refine lv_iinc (v := nI (i + 1)) (lv' := [(4, .int (nI (i + 1))), (3, .int (nI n)), (2, .int (nI k)), (0, .ref b), (1, .int x)]) hx hb d_Mo_list_189 hl (k := 0) rfl (nI_1 i) (by decide) rfl (fun ls hl => ?_)
        refine lv_goto (tgt := 154) hx hb d_Mo_list_192 (by decide) ?_
        refine ih (i + 1, G7b, H7b, locs, ls) ⟨hil, ho, hR, hM, hL, hft.trans hft7, (congrFun (uG7b 12 (by decide)) k).trans h12, (congrFun (uG7b 13 (by decide)) k).trans h13, fun q hq => ?_, (lv_sub hl [0, 1, 2, 3, 4] rfl)⟩ (by show f.1.2.2.length - (i + 1) < f.1.2.2.length - i; omega)
        have hq : q < i + 1 := hq
        show G7b 15 (100 * k + q) = _
        rw [sG7b]
        rcases Nat.eq_or_lt_of_le (Nat.le_of_lt_succ hq) with e | e
        · subst e; rw [pk_us]
        · rw [pk_un (by omega)]; exact hqp q e
  · have hlt : k < S.2.2.1.length := Nat.lt_of_not_le fun q => absurd (nI_le q (by omega)) c1
    obtain ⟨f, hff⟩ := g_ex hlt
    have hfe : m_e G5 k f := m_ue hu (w3 k f hff)
    refine lv_aload_n hx hb d_Mo_list_32 rfl (lv_at hl 1 rfl) ?_
    refine x_get (ci := 8) (T := T_Mo) hx hb htb u_Mo hown hK ho rfl 5 (by decide) (htb _ mw_468) (fun _ h9 => h9) (v := .ref (b + 3)) rfl d_Mo_list_33 ?_
    refine lv_iload_n hx hb d_Mo_list_36 rfl (lv_at hl 0 rfl) ?_
    refine m_ild hx hb hK hR 3 (by decide) (by decide) rfl (i := k) (show _ < 320 by omega) d_Mo_list_37 ?_
    refine x_top (y := f.1.1) (hfe.1.1) ?_
    refine lv_iload_n hx hb d_Mo_list_38 rfl (lv_at hl 2 rfl) ?_
    refine lv_icmp_ne (tgt := 104) hx hb d_Mo_list_39 (by decide) (fun c2 => ?_) (fun c2 => ?_)
    · have hls := m_lst_ne hff c2
      refine lv_iinc (v := nI (k + 1)) (lv' := [(2, .int (nI (k + 1))), (0, .ref b), (1, .int x)]) hx hb d_Mo_list_104 hl (k := 0) rfl (nI_1 k) (by decide) rfl (fun ls hl => ?_)
      refine lv_goto (tgt := 24) hx hb d_Mo_list_107 (by decide) ?_
      refine ih (k + 1, G5, H, locs, ls) ⟨hlt, by show m_O D b 0 (nI S.1.length) (nI S.2.1.length) (nI S.2.2.1.length) (nI S.2.2.2.1.length) (nI S.2.2.2.2.1.length) (nI S.2.2.2.2.2.1) (nI (m_lst S.2.2.1 x (k + 1)).length) H; rw [hls]; exact ho, hR, hM, hL, ⟨ps, hps.trans hls.symm, hpx, Nat.le_succ_of_le hpl⟩, hu, (lv_sub hl [0, 1, 2] rfl)⟩ (by show S.2.2.1.length - (k + 1) < S.2.2.1.length - k; omega)
    · have hls := m_lst_eq hff c2
      have ih0 := ih
      have hk0 := hk
      clear ih hk
      generalize hgs : m_lst S.2.2.1 x k = gs at *
      refine lv_aload_n hx hb d_Mo_list_42 rfl (lv_at hl 1 rfl) ?_
      refine x_get (ci := 8) (T := T_Mo) hx hb htb u_Mo hown hK ho rfl 18 (by decide) (htb _ mw_481) (fun _ h9 => h9) (v := .int (nI gs.length)) rfl d_Mo_list_43 ?_
      refine x_top (y := nI ps.length) (by rw [hpsl]) ?_
      refine lv_istore_n (lv' := [(3, .int (nI ps.length)), (2, .int (nI k)), (0, .ref b), (1, .int x)]) hx hb d_Mo_list_46 rfl hl (by decide) rfl (fun ls hl => ?_)
      refine x_loop (σ := Nat × m_G × Heap × List Loc × Array Slot) (fun z => F0 m 47 z.2.2.2.2 []) (fun z => z.2.2.1) (fun z => z.2.2.2.1) (fun z => z.1 ≤ ps.length ∧ m_O D b 0 (nI S.1.length) (nI S.2.1.length) (nI S.2.2.1.length) (nI S.2.2.2.1.length) (nI S.2.2.2.2.1.length) (nI S.2.2.2.2.2.1) (nI gs.length) z.2.2.1 ∧ m_R D A b z.2.1 z.2.2.1 ∧ m_K b H0 z.2.2.1 ∧ (∀ q ∈ z.2.2.2.1, m_fq b q.base) ∧ g_pos gs f.1 ps.length = g_pos gs f.1 z.1 ∧ (∀ (j : Nat) (p : Nat × g_F), j < z.1 → ps[j]? = some p → z.2.1 14 j = nI p.1) ∧ (∀ (j : Nat) (p : Nat × g_F), z.1 ≤ j → ps[j]? = some p → z.2.1 14 (j + 1) = nI p.1) ∧ (∀ k, k ≠ 14 → z.2.1 k = G k) ∧ lv_has z.2.2.2.2 5 [(3, .int (nI z.1)), (2, .int (nI k)), (0, .ref b), (1, .int x)]) (fun z => z.1) (s0 := (ps.length, G5, H, _, ls)) ⟨Nat.le_refl _, ho, hR, hM, hL, rfl, (fun j p _ h => (hpx j p h).1), (fun j p h1 h2 => absurd (List.getElem?_eq_some_iff.mp h2).1 (Nat.not_lt.mpr h1)), hu, (lv_sub hl [0, 1, 2, 3] rfl)⟩ ?_
      clear hR ho hM hL hl
      rintro ⟨i, G6, H6, locs, ls⟩ ⟨hk, ho, hR, hM, hL, hpos, hlo, hhi, hu6, hl⟩ ih
      dsimp only at hk ho hR hM hL hpos hlo hhi hu6 hl ih ⊢
      refine lv_iload_n hx hb d_Mo_list_47 rfl (lv_at hl 0 rfl) ?_
      refine lv_if_le (tgt := 87) hx hb d_Mo_list_48 (by decide) (fun c3 => ?_) (fun c3 => ?_)
      · have e : i = 0 := by
          rcases Nat.eq_zero_or_pos i with q | q
          · exact q
          · exact absurd c3 (nI_nle q (by omega))
        refine lv_aload_n hx hb d_Mo_list_87 rfl (lv_at hl 2 rfl) ?_
        refine x_get (ci := 8) (T := T_Mo) hx hb htb u_Mo hown hK ho rfl 21 (by decide) (htb _ mw_484) (fun _ h9 => h9) (v := .ref (b + 14)) rfl d_Mo_list_88 ?_
        refine lv_iload_n hx hb d_Mo_list_91 rfl (lv_at hl 0 rfl) ?_
        refine lv_iload_n hx hb d_Mo_list_92 rfl (lv_at hl 1 rfl) ?_
        refine m_ist hx hb hK ho hM hL hR 14 (by decide) (by decide) rfl (i := i) (show _ < 60 by omega) d_Mo_list_93 (fun H7 locs ho hM hL hR => ?_)
        obtain ⟨G7, eG7⟩ : ∃ Gq : m_G, Gq = m_up G6 14 (upd (G6 14) i (nI k)) := ⟨_, rfl⟩
        rw [← eG7] at hR
        have uG7 : ∀ j, j ≠ 14 → G7 j = G6 j := fun j h => by rw [eG7]; exact m_up_ne _ _ h
        have sG7 : G7 14 = upd (G6 14) i (nI k) := by rw [eG7]; exact m_up_self _ _ _
        refine lv_aload_n hx hb d_Mo_list_94 rfl (lv_at hl 2 rfl) ?_
        refine lv_dup hx hb d_Mo_list_95 rfl ?_
        refine x_get (ci := 8) (T := T_Mo) hx hb htb u_Mo hown hK ho rfl 18 (by decide) (htb _ mw_481) (fun _ h9 => h9) (v := .int (nI gs.length)) rfl d_Mo_list_96 ?_
        refine lv_iconst (v := 1) hx hb d_Mo_list_99 (by decide) ?_
        refine lv_iadd hx hb d_Mo_list_100 ?_
        have hgi : g_ins gs f = gs.insertIdx i f := by unfold g_ins; rw [if_neg (by omega), hpsl, hpos, show g_pos gs f.1 i = i by rw [e]; rfl]
        have hgl : (g_ins gs f).length = gs.length + 1 := by rw [hgi, List.length_insertIdx, if_pos (by omega)]
        refine x_top (y := nI (g_ins gs f).length) (by rw [hgl]; exact nI_1 _) ?_
        refine x_put (F := m_fq b) (ci := 8) (v := .int (nI (g_ins gs f).length)) (ty := .int) (T := T_Mo) hx hb htb u_Mo t_Mo t_Mo_ok n_Mo hown hK ho hL ⟨Nat.le_refl _, Nat.le_add_right _ _⟩ rfl 18 (by decide) (htb _ mw_481) (fun _ h9 => h9) rfl (by decide +kernel) rfl rfl (Nat.le_of_ble_eq_true rfl) d_Mo_list_101 (fun H8 locs hf9 hc10 hL => ?_)
        have hf9 : va_at D x_cl (b, .inr (8, [.int 0, .ref (b + 1), .ref (b + 2), .int (nI S.1.length), .int (nI S.2.1.length), .ref (b + 3), .ref (b + 4), .ref (b + 5), .ref (b + 6), .ref (b + 7), .ref (b + 8), .int (nI S.2.2.1.length), .int (nI S.2.2.2.1.length), .int (nI S.2.2.2.2.1.length), .int (nI S.2.2.2.2.2.1), .ref (b + 9), .ref (b + 10), .ref (b + 11), .int (nI (g_ins gs f).length), .ref (b + 12), .ref (b + 13), .ref (b + 14), .ref (b + 15)])) H8 := hf9
        have ho : m_O D b 0 (nI S.1.length) (nI S.2.1.length) (nI S.2.2.1.length) (nI S.2.2.2.1.length) (nI S.2.2.2.2.1.length) (nI S.2.2.2.2.2.1) (nI (g_ins gs f).length) H8 := hf9
        have hR := hR.but0 hc10
        have hM := hM.trans (m_K.but0 hc10)
        refine lv_iinc (v := nI (k + 1)) (lv' := [(2, .int (nI (k + 1))), (3, .int (nI i)), (0, .ref b), (1, .int x)]) hx hb d_Mo_list_104 hl (k := 1) rfl (nI_1 k) (by decide) rfl (fun ls hl => ?_)
        refine lv_goto (tgt := 24) hx hb d_Mo_list_107 (by decide) ?_
        refine ih0 (k + 1, G7, H8, locs, ls) ⟨hlt, by show m_O D b 0 (nI S.1.length) (nI S.2.1.length) (nI S.2.2.1.length) (nI S.2.2.2.1.length) (nI S.2.2.2.2.1.length) (nI S.2.2.2.2.2.1) (nI (m_lst S.2.2.1 x (k + 1)).length) H8; rw [hls]; exact ho, hR, hM, hL, ⟨ps.insertIdx i (k, f), ?_, fun j p h => ?_, ?_⟩, fun j hj => (uG7 j hj).trans (hu6 j hj), (lv_sub hl [0, 2, 3] rfl)⟩ (by show S.2.2.1.length - (k + 1) < S.2.2.1.length - k; omega)
        · show _ = m_lst S.2.2.1 x (k + 1)
          rw [hls, hgi, m_mapins, hps]
        · rw [show (k + 1, G7, H8, locs, ls).2.1 = G7 from rfl, sG7]
          rcases g_insIdx hk h with ⟨h1, h2⟩ | ⟨h1, h2⟩ | ⟨h1, h2⟩
          · exact ⟨by rw [pk_un (by omega)]; exact hlo j p h1 h2, (hpx j p h2).2⟩
          · rw [h1, h2]; exact ⟨pk_us, hff, c2⟩
          · refine ⟨?_, (hpx (j - 1) p h2).2⟩
            rw [pk_un (by omega)]
            have h3 := hhi (j - 1) p (by omega) h2
            rwa [Nat.sub_add_cancel (by omega)] at h3
        · show _ ≤ k + 1
          rw [List.length_insertIdx, if_pos hk]
          omega
      · obtain ⟨i2, rfl⟩ : ∃ k, i = k + 1 := by
          cases i with
          | zero => exact absurd (by rw [nI_0]; decide) c3
          | succ k => exact ⟨k, rfl⟩
        obtain ⟨⟨n, g⟩, hpp⟩ := g_ex (as := ps) (j := i2) (by omega)
        obtain ⟨x1, x2, x3⟩ := hpx i2 _ hpp
        dsimp only at x1 x2 x3
        have hnl := (List.getElem?_eq_some_iff.mp x2).1
        have hgg : gs[i2]? = some g := by rw [← hps, List.getElem?_map, hpp]; rfl
        have hfe6 : m_e G6 k f := m_ue hu6 (w3 k f hff)
        have hge6 : m_e G6 n g := m_ue hu6 (w3 n g x2)
        refine lv_aload_n hx hb d_Mo_list_51 rfl (lv_at hl 2 rfl) ?_
        refine lv_iload_n hx hb d_Mo_list_52 rfl (lv_at hl 1 rfl) ?_
        refine lv_aload_n hx hb d_Mo_list_53 rfl (lv_at hl 2 rfl) ?_
        refine x_get (ci := 8) (T := T_Mo) hx hb htb u_Mo hown hK ho rfl 21 (by decide) (htb _ mw_484) (fun _ h9 => h9) (v := .ref (b + 14)) rfl d_Mo_list_54 ?_
        refine lv_iload_n hx hb d_Mo_list_57 rfl (lv_at hl 0 rfl) ?_
        refine lv_iconst (v := 1) hx hb d_Mo_list_58 (by decide) ?_
        refine lv_isub hx hb d_Mo_list_59 ?_
        refine x_top (y := nI i2) (nI_pred i2) ?_
        refine m_ild hx hb hK hR 14 (by decide) (by decide) rfl (i := i2) (show _ < 60 by omega) d_Mo_list_60 ?_
        refine x_top (y := nI n) (hlo i2 _ (Nat.lt_succ_self _) hpp) ?_
        refine x_callP (va_runV (As := [.int (nI k), .int (nI n)]) (rest := []) ⟨hx, hb, hml, hown, htb⟩ (c_Mo_isAhead l ho hR (i := k) (j := n) (by omega) (by omega) hfe6 hge6 (c2.trans x3.symm)) (x_cV 2 htb mw_621 mw_6 mw_624 mw_623 ms_18 rfl rfl (by decide +kernel) ⟨Nat.le_of_ble_eq_true rfl, Nat.le_of_ble_eq_true rfl⟩) (x_preV hK hN ho rfl) rfl rfl hl.1 rfl (lv_room (Nat.le_of_ble_eq_true rfl)) d_Mo_list_61 ⟨Nat.le_of_ble_eq_true rfl, Nat.le_of_ble_eq_true rfl⟩) ?_
        refine W.eq (g2 := F0 m 64 ls [.int (if g_no f.1 g.1 < 0 then 1 else 0)]) rfl ?_
        refine lv_if_eq (tgt := 87) hx hb d_Mo_list_64 (by decide) (fun c4 => ?_) (fun c4 => ?_)
        · have hnn : ¬ g_no f.1 g.1 < 0 := fun q => by rw [if_pos q] at c4; exact absurd c4 (by decide)
          have hstop := g_pos_stop hgg hnn
          generalize hi1 : i2 + 1 = i at *
          refine lv_aload_n hx hb d_Mo_list_87 rfl (lv_at hl 2 rfl) ?_
          refine x_get (ci := 8) (T := T_Mo) hx hb htb u_Mo hown hK ho rfl 21 (by decide) (htb _ mw_484) (fun _ h9 => h9) (v := .ref (b + 14)) rfl d_Mo_list_88 ?_
          refine lv_iload_n hx hb d_Mo_list_91 rfl (lv_at hl 0 rfl) ?_
          refine lv_iload_n hx hb d_Mo_list_92 rfl (lv_at hl 1 rfl) ?_
          refine m_ist hx hb hK ho hM hL hR 14 (by decide) (by decide) rfl (i := i) (show _ < 60 by omega) d_Mo_list_93 (fun H7 locs ho hM hL hR => ?_)
          obtain ⟨G7, eG7⟩ : ∃ Gq : m_G, Gq = m_up G6 14 (upd (G6 14) i (nI k)) := ⟨_, rfl⟩
          rw [← eG7] at hR
          have uG7 : ∀ j, j ≠ 14 → G7 j = G6 j := fun j h => by rw [eG7]; exact m_up_ne _ _ h
          have sG7 : G7 14 = upd (G6 14) i (nI k) := by rw [eG7]; exact m_up_self _ _ _
          refine lv_aload_n hx hb d_Mo_list_94 rfl (lv_at hl 2 rfl) ?_
          refine lv_dup hx hb d_Mo_list_95 rfl ?_
          refine x_get (ci := 8) (T := T_Mo) hx hb htb u_Mo hown hK ho rfl 18 (by decide) (htb _ mw_481) (fun _ h9 => h9) (v := .int (nI gs.length)) rfl d_Mo_list_96 ?_
          refine lv_iconst (v := 1) hx hb d_Mo_list_99 (by decide) ?_
          refine lv_iadd hx hb d_Mo_list_100 ?_
          have hgi : g_ins gs f = gs.insertIdx i f := by unfold g_ins; rw [if_neg (by omega), hpsl, hpos, hstop]
          have hgl : (g_ins gs f).length = gs.length + 1 := by rw [hgi, List.length_insertIdx, if_pos (by omega)]
          refine x_top (y := nI (g_ins gs f).length) (by rw [hgl]; exact nI_1 _) ?_
          refine x_put (F := m_fq b) (ci := 8) (v := .int (nI (g_ins gs f).length)) (ty := .int) (T := T_Mo) hx hb htb u_Mo t_Mo t_Mo_ok n_Mo hown hK ho hL ⟨Nat.le_refl _, Nat.le_add_right _ _⟩ rfl 18 (by decide) (htb _ mw_481) (fun _ h9 => h9) rfl (by decide +kernel) rfl rfl (Nat.le_of_ble_eq_true rfl) d_Mo_list_101 (fun H8 locs hf11 hc12 hL => ?_)
          have hf11 : va_at D x_cl (b, .inr (8, [.int 0, .ref (b + 1), .ref (b + 2), .int (nI S.1.length), .int (nI S.2.1.length), .ref (b + 3), .ref (b + 4), .ref (b + 5), .ref (b + 6), .ref (b + 7), .ref (b + 8), .int (nI S.2.2.1.length), .int (nI S.2.2.2.1.length), .int (nI S.2.2.2.2.1.length), .int (nI S.2.2.2.2.2.1), .ref (b + 9), .ref (b + 10), .ref (b + 11), .int (nI (g_ins gs f).length), .ref (b + 12), .ref (b + 13), .ref (b + 14), .ref (b + 15)])) H8 := hf11
          have ho : m_O D b 0 (nI S.1.length) (nI S.2.1.length) (nI S.2.2.1.length) (nI S.2.2.2.1.length) (nI S.2.2.2.2.1.length) (nI S.2.2.2.2.2.1) (nI (g_ins gs f).length) H8 := hf11
          have hR := hR.but0 hc12
          have hM := hM.trans (m_K.but0 hc12)
          refine lv_iinc (v := nI (k + 1)) (lv' := [(2, .int (nI (k + 1))), (3, .int (nI i)), (0, .ref b), (1, .int x)]) hx hb d_Mo_list_104 hl (k := 1) rfl (nI_1 k) (by decide) rfl (fun ls hl => ?_)
          refine lv_goto (tgt := 24) hx hb d_Mo_list_107 (by decide) ?_
          refine ih0 (k + 1, G7, H8, locs, ls) ⟨hlt, by show m_O D b 0 (nI S.1.length) (nI S.2.1.length) (nI S.2.2.1.length) (nI S.2.2.2.1.length) (nI S.2.2.2.2.1.length) (nI S.2.2.2.2.2.1) (nI (m_lst S.2.2.1 x (k + 1)).length) H8; rw [hls]; exact ho, hR, hM, hL, ⟨ps.insertIdx i (k, f), ?_, fun j p h => ?_, ?_⟩, fun j hj => (uG7 j hj).trans (hu6 j hj), (lv_sub hl [0, 2, 3] rfl)⟩ (by show S.2.2.1.length - (k + 1) < S.2.2.1.length - k; omega)
          · show _ = m_lst S.2.2.1 x (k + 1)
            rw [hls, hgi, m_mapins, hps]
          · rw [show (k + 1, G7, H8, locs, ls).2.1 = G7 from rfl, sG7]
            rcases g_insIdx hk h with ⟨h1, h2⟩ | ⟨h1, h2⟩ | ⟨h1, h2⟩
            · exact ⟨by rw [pk_un (by omega)]; exact hlo j p h1 h2, (hpx j p h2).2⟩
            · rw [h1, h2]; exact ⟨pk_us, hff, c2⟩
            · refine ⟨?_, (hpx (j - 1) p h2).2⟩
              rw [pk_un (by omega)]
              have h3 := hhi (j - 1) p (by omega) h2
              rwa [Nat.sub_add_cancel (by omega)] at h3
          · show _ ≤ k + 1
            rw [List.length_insertIdx, if_pos hk]
            omega
        · have hnn : g_no f.1 g.1 < 0 := Decidable.byContradiction fun q => c4 (if_neg q)
          refine lv_aload_n hx hb d_Mo_list_67 rfl (lv_at hl 2 rfl) ?_
          refine x_get (ci := 8) (T := T_Mo) hx hb htb u_Mo hown hK ho rfl 21 (by decide) (htb _ mw_484) (fun _ h9 => h9) (v := .ref (b + 14)) rfl d_Mo_list_68 ?_
          refine lv_iload_n hx hb d_Mo_list_71 rfl (lv_at hl 0 rfl) ?_
          refine lv_aload_n hx hb d_Mo_list_72 rfl (lv_at hl 2 rfl) ?_
          refine x_get (ci := 8) (T := T_Mo) hx hb htb u_Mo hown hK ho rfl 21 (by decide) (htb _ mw_484) (fun _ h9 => h9) (v := .ref (b + 14)) rfl d_Mo_list_73 ?_
          refine lv_iload_n hx hb d_Mo_list_76 rfl (lv_at hl 0 rfl) ?_
          refine lv_iconst (v := 1) hx hb d_Mo_list_77 (by decide) ?_
          refine lv_isub hx hb d_Mo_list_78 ?_
          refine x_top (y := nI i2) (nI_pred i2) ?_
          refine m_ild hx hb hK hR 14 (by decide) (by decide) rfl (i := i2) (show _ < 60 by omega) d_Mo_list_79 ?_
          refine x_top (y := nI n) (hlo i2 _ (Nat.lt_succ_self _) hpp) ?_
          refine m_ist hx hb hK ho hM hL hR 14 (by decide) (by decide) rfl (i := i2 + 1) (show _ < 60 by omega) d_Mo_list_80 (fun H7 locs ho hM hL hR => ?_)
          obtain ⟨G7, eG7⟩ : ∃ Gq : m_G, Gq = m_up G6 14 (upd (G6 14) (i2 + 1) (nI n)) := ⟨_, rfl⟩
          rw [← eG7] at hR
          have uG7 : ∀ j, j ≠ 14 → G7 j = G6 j := fun j h => by rw [eG7]; exact m_up_ne _ _ h
          have sG7 : G7 14 = upd (G6 14) (i2 + 1) (nI n) := by rw [eG7]; exact m_up_self _ _ _
          refine lv_iinc (v := nI i2) (lv' := [(3, .int (nI i2)), (2, .int (nI k)), (0, .ref b), (1, .int x)]) hx hb d_Mo_list_81 hl (k := 0) rfl (pk_m1 i2) (by decide) rfl (fun ls hl => ?_)
          refine lv_goto (tgt := 47) hx hb d_Mo_list_84 (by decide) ?_
          refine ih (i2, G7, H7, locs, ls) ⟨by show i2 ≤ ps.length; omega, ho, hR, hM, hL, hpos.trans (g_pos_step hgg hnn), fun j p q q2 => ?_, fun j p q q2 => ?_, fun j hj => (uG7 j hj).trans (hu6 j hj), (lv_sub hl [0, 1, 2, 3] rfl)⟩ (Nat.lt_succ_self i2)
          · have q : j < i2 := q
            show G7 14 j = nI p.1
            rw [sG7, pk_un (by omega)]
            exact hlo j p (by omega) q2
          · have q : i2 ≤ j := q
            show G7 14 (j + 1) = nI p.1
            rw [sG7]
            rcases Nat.eq_or_lt_of_le q with e | e
            · subst e; rw [hpp] at q2; cases q2; rw [pk_us]
            · rw [pk_un (by omega)]; exact hhi j p (by omega) q2
