def m_o (G : m_G) (i : Nat) (o : m_P) : Prop := G 9 i = o.1 ∧ G 10 i = o.2.1 ∧ G 11 i = o.2.2.1 ∧ m_e G (120 + i) o.2.2.2
def m_ops (G : m_G) (os : List m_P) : Prop := ∀ (i : Nat) (o : m_P), os[i]? = some o → m_o G i o
def m_row (g : Nat → Int32) (us : List Nat) (n : Nat) : Prop := us.length ≤ n ∧ (∀ k, k < us.length → g k = sb_b (us.getD k 0)) ∧ ∀ u ∈ us, u < 256
def m_t (G : m_G) (i : Nat) (t : Int32 × List Nat) : Prop := G 12 i = t.1 ∧ G 13 i = nI t.2.length ∧ t.2.length ≤ 100 ∧ (∀ k, k < t.2.length → G 15 (100 * i + k) = sb_b (t.2.getD k 0)) ∧ ∀ u ∈ t.2, u < 256
def m_told (G : m_G) (ts : List (Int32 × List Nat)) : Prop := ∀ (i : Nat) (t : Int32 × List Nat), ts[i]? = some t → m_t G i t
/-- what the reference holds: tape, path, files, as kept, operations, how many, what was listed -/
abbrev m_S : Type := List Nat × List Nat × List g_F × List g_F × List m_P × Nat × List (Int32 × List Nat)
def m_V (G : m_G) (S : m_S) : Prop := m_row (G 1) S.1 400 ∧ m_row (G 2) S.2.1 100 ∧ (m_L G 0 S.2.2.1 ∧ S.2.2.1.length ≤ 60) ∧ (m_L G 60 S.2.2.2.1 ∧ S.2.2.2.1.length ≤ 60) ∧ (m_ops G S.2.2.2.2.1 ∧ S.2.2.2.2.1.length ≤ 200) ∧ (m_told G S.2.2.2.2.2.2 ∧ S.2.2.2.2.2.2.length ≤ 60)
def m_M (D : va_G) (A : Nat → ClassId) (b : Nat) (th : Int32) (S : m_S) (H : Heap) : Prop := ∃ G : m_G, m_O D b th (nI S.1.length) (nI S.2.1.length) (nI S.2.2.1.length) (nI S.2.2.2.1.length) (nI S.2.2.2.2.1.length) (nI S.2.2.2.2.2.1) (nI S.2.2.2.2.2.2.length) H ∧ m_R D A b G H ∧ m_V G S
/-- what an operation more may change -/
def m_fa (d : Nat) (G G' : m_G) : Prop := (∀ e, 60 ≤ e → (∀ k, 3 ≤ k → k ≤ 6 → G' k e = G k e) ∧ (∀ k, k < 100 → G' 7 (100 * e + k) = G 7 (100 * e + k)) ∧ (∀ k, k < 400 → G' 8 (400 * e + k) = G 8 (400 * e + k))) ∧ (∀ k, (k < 3 ∨ 11 < k) → G' k = G k) ∧ ∀ k i, 9 ≤ k → k ≤ 11 → i ≠ d → G' k i = G k i
theorem m_fa.e {d e : Nat} {G G' : m_G} {f : g_F} (h : m_fa d G G') (he : 60 ≤ e) (hf : m_e G e f) : m_e G' e f := by
  obtain ⟨a, b, c⟩ := h.1 e he
  obtain ⟨⟨f1, f2⟩, ⟨f3, f4, f5, f6⟩, f7, f8, f9, f10⟩ := hf
  exact ⟨⟨(a 3 (by decide) (by decide)).trans f1, (a 4 (by decide) (by decide)).trans f2⟩, ⟨(a 5 (by decide) (by decide)).trans f3, f4, fun k hk => (b k (by omega)).trans (f5 k hk), f6⟩, (a 6 (by decide) (by decide)).trans f7, f8, fun k hk => (c k (by omega)).trans (f9 k hk), f10⟩
theorem m_fa.o {d i : Nat} {G G' : m_G} {o : m_P} (h : m_fa d G G') (hi : i ≠ d) (ho : m_o G i o) : m_o G' i o := ⟨(h.2.2 9 i (by decide) (by decide) hi).trans ho.1, (h.2.2 10 i (by decide) (by decide) hi).trans ho.2.1, (h.2.2 11 i (by decide) (by decide) hi).trans ho.2.2.1, h.e (by omega) ho.2.2.2⟩
theorem m_fa.f60 {d : Nat} {G G1 G2 : m_G} (h : m_fa d G G1) (h2 : m_f60 G1 G2) : m_fa d G G2 := ⟨fun e he => ⟨fun k a b => ((h2.1 e he).1 k a b).trans ((h.1 e he).1 k a b), fun k a => ((h2.1 e he).2.1 k a).trans ((h.1 e he).2.1 k a), fun k a => ((h2.1 e he).2.2 k a).trans ((h.1 e he).2.2 k a)⟩, fun k hk => (h2.2 k (by omega)).trans (h.2.1 k hk), fun k i h1 h3 hi => (congrFun (h2.2 k (by omega)) i).trans (h.2.2 k i h1 h3 hi)⟩
theorem m_told.eq {G G' : m_G} {ts : List (Int32 × List Nat)} (h : m_told G ts) (h12 : G' 12 = G 12) (h13 : G' 13 = G 13) (h15 : G' 15 = G 15) : m_told G' ts := fun i t ht => by
  have := h i t ht
  unfold m_t at *
  rw [h12, h13, h15]
  exact this
theorem m_row.eq {g g' : Nat → Int32} {us : List Nat} {n : Nat} (h : m_row g us n) (e : g' = g) : m_row g' us n := by rw [e]; exact h
/-- an operation more: the rows behind it -/
theorem m_V.push {G G0 G1 : m_G} {S : m_S} {us : List Nat} {o : m_P} (hV : m_V G S) (hlt : S.2.2.2.2.1.length < 200) (hu : us = [] ∨ us = S.1) (h0 : m_fr (120 + S.2.2.2.2.1.length) G G0) (h1 : m_fa S.2.2.2.2.1.length G0 G1) (ho : m_o G1 S.2.2.2.2.1.length o) (hl : m_L G1 0 (m_act S.2.2.1 o)) (hlen : (m_act S.2.2.1 o).length ≤ 60) :
    m_V G1 (us, S.2.1, m_act S.2.2.1 o, S.2.2.2.1, S.2.2.2.2.1 ++ [o], S.2.2.2.2.2.1 + 1, S.2.2.2.2.2.2) := by
  obtain ⟨v1, v2, ⟨v3, v4⟩, ⟨v5, v6⟩, ⟨v7, v8⟩, v9, v10⟩ := hV
  have er : ∀ k, (k < 3 ∨ 11 < k) → G1 k = G k := fun k hk => (h1.2.1 k hk).trans (h0.2 k (by omega))
  refine ⟨?_, v2.eq (er 2 (by decide)), ⟨hl, hlen⟩, ⟨fun i f hi => ?_, v6⟩, ⟨fun i p hi => ?_, ?_⟩, v9.eq (er 12 (by decide)) (er 13 (by decide)) (er 15 (by decide)), v10⟩
  · rcases hu with e | e
    · rw [e]
      exact ⟨Nat.zero_le _, fun k hk => absurd hk (Nat.not_lt_zero k), fun u hu => by cases hu⟩
    · rw [e]
      exact v1.eq (er 1 (by decide))
  · have hil := (List.getElem?_eq_some_iff.mp hi).1
    exact h1.e (by omega) (h0.e (by dsimp only at hil; omega) (v5 i f hi))
  · dsimp only at hi
    rcases Nat.lt_or_ge i S.2.2.2.2.1.length with q | q
    · rw [List.getElem?_append_left q] at hi
      have h3 := v7 i p hi
      refine h1.o (by omega) ⟨?_, ?_, ?_, h0.e (by omega) h3.2.2.2⟩
      · rw [h0.2 9 (by decide)]; exact h3.1
      · rw [h0.2 10 (by decide)]; exact h3.2.1
      · rw [h0.2 11 (by decide)]; exact h3.2.2.1
    · rw [List.getElem?_append_right q] at hi
      have h3 : i - S.2.2.2.2.1.length = 0 := by
        have := (List.getElem?_eq_some_iff.mp hi).1
        simp at this
        exact this
      rw [h3] at hi
      cases hi
      have h4 : i = S.2.2.2.2.1.length := by omega
      rw [h4]
      exact ho
  · show (S.2.2.2.2.1 ++ [o]).length ≤ 200
    rw [List.length_append]
    exact hlt
theorem m_act_len {fs : List g_F} {o : m_P} (h : m_ok fs o) (hl : fs.length ≤ 60) : (m_act fs o).length ≤ 60 := by
  unfold m_act
  split
  · rename_i hw
    split
    · rw [List.length_set]; exact hl
    · rename_i hg
      rcases h with h | ⟨i, h⟩
      · rw [List.length_append]; exact h.2
      · rw [hg] at h; cases h
  · split
    · split
      · rename_i i hg
        have := g_find_lt hg
        rw [m_drop_len (by omega)]; omega
      · exact hl
    · split
      · exact hl
      · split
        · rename_i i hg
          have := g_find_lt hg
          split
          · rw [m_drop_len (by rw [m_ren_len]; omega), m_ren_len]; omega
          · rw [m_ren_len]; exact hl
        · exact hl

set_option maxHeartbeats 4000000 in
set_option maxRecDepth 100000 in
theorem c_Mo_add (l : Launch) {D : va_G} {A : Nat → ClassId} {H0 : Heap} {b : Nat} {v0 v1 v2 v4 v7 : Int32} {G : m_G} {fs : List g_F} {d al : Nat} (ho : m_O D b v0 v1 v2 (nI fs.length) v4 (nI d) (nI al) v7 H0) (hR : m_R D A b G H0) {o : m_P} (xx : Int32) (hfl : fs.length ≤ 60) (hfs : m_L G 0 fs) (hd : d < 200) (o4 : m_e G (120 + d) o.2.2.2) (hok : m_ok fs o) : Met l y_Mo_add w_Mo_add { frames := 3, cells := 0, slots := 0, locals := 72 } (x_Pc D A [.ref b, .int o.1, .int xx, .int o.2.1, .int o.2.2.1] H0) (x_Q none (fun H1 => ∃ G1 : m_G, m_O D b v0 v1 v2 (nI (m_act fs o).length) v4 (nI (d + 1)) (nI (al + 1)) v7 H1 ∧ m_R D A b G1 H1 ∧ m_K b H0 H1 ∧ m_L G1 0 (m_act fs o) ∧ m_o G1 d o ∧ m_fa d G G1)) 0 0 (m_fq b) := by
  refine Met.ofW (cc := prog_10_method_11_code) (maxL := 5) (ret := none) (by decide) rfl ?_
  intro p e s m args below meth c s₁ B hml hv
  obtain ⟨rfl, hH, hK, hN⟩ := hv
  obtain ⟨hx, hb, hr, htb, hown, hlocks⟩ := x_start (wd := Cond.code y_Mo_add prog_10_method_11_code 5 none) B
  have hl := lv_entry ([.ref b, .int o.1, .int xx, .int o.2.1, .int o.2.2.1]) (n := 5) (Nat.le_of_ble_eq_true rfl)
  rw [lg_entry_eq]
  generalize (lg_sl ([.ref b, .int o.1, .int xx, .int o.2.1, .int o.2.2.1]) ++ List.replicate (5 - (lg_sl ([.ref b, .int o.1, .int xx, .int o.2.1, .int o.2.2.1])).length) Slot.unset).toArray = ls at hl ⊢
  have hl : lv_has ls 5 [(0, .ref b), (1, .int o.1), (2, .int xx), (3, .int o.2.1), (4, .int o.2.2.1)] := hl
  rw [hH]
  have hM : m_K b H0 H0 := m_K.refl
  have hL : ∀ q ∈ ([] : List Loc), m_fq b q.base := fun q hq => by cases hq
  refine lv_aload_n hx hb d_Mo_add_0 rfl (lv_at hl 0 rfl) ?_
  refine x_get (ci := 8) (T := T_Mo) hx hb htb u_Mo hown hK ho rfl 15 (by decide) (htb _ mw_478) (fun _ h9 => h9) (v := .ref (b + 9)) rfl d_Mo_add_1 ?_
  refine lv_aload_n hx hb d_Mo_add_4 rfl (lv_at hl 0 rfl) ?_
  refine x_get (ci := 8) (T := T_Mo) hx hb htb u_Mo hown hK ho rfl 13 (by decide) (htb _ mw_476) (fun _ h9 => h9) (v := .int (nI d)) rfl d_Mo_add_5 ?_
  refine lv_iload_n hx hb d_Mo_add_8 rfl (lv_at hl 1 rfl) ?_
  refine m_ist hx hb hK ho hM hL hR 9 (by decide) (by decide) rfl (i := d) (show _ < 200 by omega) d_Mo_add_9 (fun Ha0 locs ho hM hL hR => ?_)
  obtain ⟨G1, eG1⟩ : ∃ Gq : m_G, Gq = m_up G 9 (upd (G 9) d o.1) := ⟨_, rfl⟩
  rw [← eG1] at hR
  have uG1 : ∀ j, j ≠ 9 → G1 j = G j := fun j h => by rw [eG1]; exact m_up_ne _ _ h
  have sG1 : G1 9 = upd (G 9) d o.1 := by rw [eG1]; exact m_up_self _ _ _
  refine lv_aload_n hx hb d_Mo_add_10 rfl (lv_at hl 0 rfl) ?_
  refine x_get (ci := 8) (T := T_Mo) hx hb htb u_Mo hown hK ho rfl 16 (by decide) (htb _ mw_479) (fun _ h9 => h9) (v := .ref (b + 10)) rfl d_Mo_add_11 ?_
  refine lv_aload_n hx hb d_Mo_add_14 rfl (lv_at hl 0 rfl) ?_
  refine x_get (ci := 8) (T := T_Mo) hx hb htb u_Mo hown hK ho rfl 13 (by decide) (htb _ mw_476) (fun _ h9 => h9) (v := .int (nI d)) rfl d_Mo_add_15 ?_
  refine lv_iload_n hx hb d_Mo_add_18 rfl (lv_at hl 3 rfl) ?_
  refine m_ist hx hb hK ho hM hL hR 10 (by decide) (by decide) rfl (i := d) (show _ < 200 by omega) d_Mo_add_19 (fun Ha1 locs ho hM hL hR => ?_)
  obtain ⟨G2, eG2⟩ : ∃ Gq : m_G, Gq = m_up G1 10 (upd (G1 10) d o.2.1) := ⟨_, rfl⟩
  rw [← eG2] at hR
  have uG2 : ∀ j, j ≠ 10 → G2 j = G1 j := fun j h => by rw [eG2]; exact m_up_ne _ _ h
  have sG2 : G2 10 = upd (G1 10) d o.2.1 := by rw [eG2]; exact m_up_self _ _ _
  refine lv_aload_n hx hb d_Mo_add_20 rfl (lv_at hl 0 rfl) ?_
  refine x_get (ci := 8) (T := T_Mo) hx hb htb u_Mo hown hK ho rfl 17 (by decide) (htb _ mw_480) (fun _ h9 => h9) (v := .ref (b + 11)) rfl d_Mo_add_21 ?_
  refine lv_aload_n hx hb d_Mo_add_24 rfl (lv_at hl 0 rfl) ?_
  refine x_get (ci := 8) (T := T_Mo) hx hb htb u_Mo hown hK ho rfl 13 (by decide) (htb _ mw_476) (fun _ h9 => h9) (v := .int (nI d)) rfl d_Mo_add_25 ?_
  refine lv_iload hx hb d_Mo_add_28 (lv_at hl 4 rfl) ?_
  refine m_ist hx hb hK ho hM hL hR 11 (by decide) (by decide) rfl (i := d) (show _ < 200 by omega) d_Mo_add_30 (fun Ha2 locs ho hM hL hR => ?_)
  obtain ⟨G3, eG3⟩ : ∃ Gq : m_G, Gq = m_up G2 11 (upd (G2 11) d o.2.2.1) := ⟨_, rfl⟩
  rw [← eG3] at hR
  have uG3 : ∀ j, j ≠ 11 → G3 j = G2 j := fun j h => by rw [eG3]; exact m_up_ne _ _ h
  have sG3 : G3 11 = upd (G2 11) d o.2.2.1 := by rw [eG3]; exact m_up_self _ _ _
  have u3 : ∀ k, k ≠ 9 → k ≠ 10 → k ≠ 11 → G3 k = G k := fun k h9 h10 h11 => by rw [eG3, m_up_ne _ _ h11, eG2, m_up_ne _ _ h10, eG1, m_up_ne _ _ h9]
  have a9 : G3 9 d = o.1 := by rw [eG3, m_up_ne _ _ (by decide), eG2, m_up_ne _ _ (by decide), eG1, m_up_self, pk_us]
  have a10 : G3 10 d = o.2.1 := by rw [eG3, m_up_ne _ _ (by decide), eG2, m_up_self, pk_us]
  have a11 : G3 11 d = o.2.2.1 := by rw [eG3, m_up_self, pk_us]
  have ue : ∀ e f, m_e G e f → m_e G3 e f := fun e f h => by unfold m_e at *; rw [u3 3 (by decide) (by decide) (by decide), u3 4 (by decide) (by decide) (by decide), u3 5 (by decide) (by decide) (by decide), u3 6 (by decide) (by decide) (by decide), u3 7 (by decide) (by decide) (by decide), u3 8 (by decide) (by decide) (by decide)]; exact h
  have hfa : m_fa d G G3 := by
    refine ⟨fun e he => ⟨fun k h1 h2 => by rw [u3 k (by omega) (by omega) (by omega)], fun k hk => by rw [u3 7 (by decide) (by decide) (by decide)], fun k hk => by rw [u3 8 (by decide) (by decide) (by decide)]⟩, fun k hk => u3 k (by omega) (by omega) (by omega), fun k i h1 h2 hi => ?_⟩
    have hk : k = 9 ∨ k = 10 ∨ k = 11 := by omega
    rcases hk with rfl | rfl | rfl
    · rw [eG3, m_up_ne _ _ (by decide), eG2, m_up_ne _ _ (by decide), eG1, m_up_self, pk_un hi]
    · rw [eG3, m_up_ne _ _ (by decide), eG2, m_up_self, pk_un hi, eG1, m_up_ne _ _ (by decide)]
    · rw [eG3, m_up_self, pk_un hi, eG2, m_up_ne _ _ (by decide), eG1, m_up_ne _ _ (by decide)]
  refine lv_aload_n hx hb d_Mo_add_31 rfl (lv_at hl 0 rfl) ?_
  refine lv_dup hx hb d_Mo_add_32 rfl ?_
  refine x_get (ci := 8) (T := T_Mo) hx hb htb u_Mo hown hK ho rfl 13 (by decide) (htb _ mw_476) (fun _ h9 => h9) (v := .int (nI d)) rfl d_Mo_add_33 ?_
  refine lv_iconst (v := 1) hx hb d_Mo_add_36 (by decide) ?_
  refine lv_iadd hx hb d_Mo_add_37 ?_
  refine x_top (y := nI (d + 1)) (nI_1 _) ?_
  refine x_put (F := m_fq b) (ci := 8) (v := .int (nI (d + 1))) (ty := .int) (T := T_Mo) hx hb htb u_Mo t_Mo t_Mo_ok n_Mo hown hK ho hL ⟨Nat.le_refl _, Nat.le_add_right _ _⟩ rfl 13 (by decide) (htb _ mw_476) (fun _ h9 => h9) rfl (by decide +kernel) rfl rfl (Nat.le_of_ble_eq_true rfl) d_Mo_add_38 (fun Hb locs hf1 hc2 hL => ?_)
  have hf1 : va_at D x_cl (b, .inr (8, [.int v0, .ref (b + 1), .ref (b + 2), .int v1, .int v2, .ref (b + 3), .ref (b + 4), .ref (b + 5), .ref (b + 6), .ref (b + 7), .ref (b + 8), .int (nI fs.length), .int v4, .int (nI (d + 1)), .int (nI al), .ref (b + 9), .ref (b + 10), .ref (b + 11), .int v7, .ref (b + 12), .ref (b + 13), .ref (b + 14), .ref (b + 15)])) Hb := hf1
  have ho : m_O D b v0 v1 v2 (nI fs.length) v4 (nI (d + 1)) (nI al) v7 Hb := hf1
  have hR := hR.but0 hc2
  have hM := hM.trans (m_K.but0 hc2)
  refine lv_aload_n hx hb d_Mo_add_41 rfl (lv_at hl 0 rfl) ?_
  refine lv_dup hx hb d_Mo_add_42 rfl ?_
  refine x_get (ci := 8) (T := T_Mo) hx hb htb u_Mo hown hK ho rfl 14 (by decide) (htb _ mw_477) (fun _ h9 => h9) (v := .int (nI al)) rfl d_Mo_add_43 ?_
  refine lv_iconst (v := 1) hx hb d_Mo_add_46 (by decide) ?_
  refine lv_iadd hx hb d_Mo_add_47 ?_
  refine x_top (y := nI (al + 1)) (nI_1 _) ?_
  refine x_put (F := m_fq b) (ci := 8) (v := .int (nI (al + 1))) (ty := .int) (T := T_Mo) hx hb htb u_Mo t_Mo t_Mo_ok n_Mo hown hK ho hL ⟨Nat.le_refl _, Nat.le_add_right _ _⟩ rfl 14 (by decide) (htb _ mw_477) (fun _ h9 => h9) rfl (by decide +kernel) rfl rfl (Nat.le_of_ble_eq_true rfl) d_Mo_add_48 (fun Hc locs hf3 hc4 hL => ?_)
  have hf3 : va_at D x_cl (b, .inr (8, [.int v0, .ref (b + 1), .ref (b + 2), .int v1, .int v2, .ref (b + 3), .ref (b + 4), .ref (b + 5), .ref (b + 6), .ref (b + 7), .ref (b + 8), .int (nI fs.length), .int v4, .int (nI (d + 1)), .int (nI (al + 1)), .ref (b + 9), .ref (b + 10), .ref (b + 11), .int v7, .ref (b + 12), .ref (b + 13), .ref (b + 14), .ref (b + 15)])) Hc := hf3
  have ho : m_O D b v0 v1 v2 (nI fs.length) v4 (nI (d + 1)) (nI (al + 1)) v7 Hc := hf3
  have hR := hR.but0 hc4
  have hM := hM.trans (m_K.but0 hc4)
  refine lv_aload_n hx hb d_Mo_add_51 rfl (lv_at hl 0 rfl) ?_
  refine lv_aload_n hx hb d_Mo_add_52 rfl (lv_at hl 0 rfl) ?_
  refine x_get (ci := 8) (T := T_Mo) hx hb htb u_Mo hown hK ho rfl 13 (by decide) (htb _ mw_476) (fun _ h9 => h9) (v := .int (nI (d + 1))) rfl d_Mo_add_53 ?_
  refine lv_iconst (v := 1) hx hb d_Mo_add_56 (by decide) ?_
  refine lv_isub hx hb d_Mo_add_57 ?_
  refine x_top (y := nI d) (nI_pred d) ?_
  refine x_call (F := m_fq b) (va_runV (As := [.int (nI d)]) (rest := []) ⟨hx, hb, hml, hown, htb⟩ (c_Mo_act l ho hR (o := o) hfl (fun i f h => ue _ f (hfs i f h)) hd a9 a10 a11 (ue _ _ o4) hok) (x_cV 1 htb mw_569 mw_6 mw_572 mw_571 ms_12 rfl rfl (by decide +kernel) ⟨Nat.le_of_ble_eq_true rfl, Nat.le_of_ble_eq_true rfl⟩) (x_preV hK hN ho rfl) rfl rfl hl.1 rfl (lv_room (Nat.le_of_ble_eq_true rfl)) d_Mo_add_58 ⟨Nat.le_of_ble_eq_true rfl, Nat.le_of_ble_eq_true rfl⟩) hL (fun q hq => hq) (fun Hd locs hP hL => ?_)
  refine W.eq (g2 := F0 m 61 ls []) rfl ?_
  obtain ⟨G4, q1, q2, q3, q4, q5⟩ := hP
  exact x_vret hx hb hr hlocks ⟨G4, q1, q2, hM.trans q3, q4, ⟨(congrFun (q5.2 9 (by decide)) d).trans a9, (congrFun (q5.2 10 (by decide)) d).trans a10, (congrFun (q5.2 11 (by decide)) d).trans a11, q5.e (by omega) (ue _ _ o4)⟩, hfa.f60 q5⟩ hL (Nat.le_refl _) (Nat.le_refl _) d_Mo_add_61
