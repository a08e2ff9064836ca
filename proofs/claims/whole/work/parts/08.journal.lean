set_option maxHeartbeats 4000000 in
set_option maxRecDepth 100000 in
theorem c_Fi_apply (l : Launch) {D : va_G} {A : Nat → ClassId} {H0 : Heap} {M : Nat → Prop} {h r b : Nat} {as : List Nat} {fs : List g_F} {o : g_O} (hf : g_fr D A 5 1 60 h r as H0) (hs : g_fs D A M as fs H0) (hn : g_op D A M b o H0) (hM1 : M h) (hM2 : M r) (n1 : h ≠ r) : Met l y_Fi_apply w_Fi_apply { frames := 4, cells := 0, slots := 0, locals := 90 } (x_Pc D A [.ref h, .ref b] H0) (x_Q none (fun H1 => ∃ bs : List Nat, g_fr D A 5 1 60 h r bs H1 ∧ g_fs D A M bs (g_ap fs o) H1 ∧ x_but2 h r H0 H1)) 0 0 (fun q : Nat => q = h ∨ q = r) := by
  refine Met.ofW (cc := prog_3_method_6_code) (maxL := 2) (ret := none) (by decide) rfl ?_
  intro p e s m args below meth c s₁ B hml hv
  obtain ⟨rfl, hH, hK, hN⟩ := hv
  obtain ⟨hx, hb, hr, htb, hown, hlocks⟩ := x_start (wd := Cond.code y_Fi_apply prog_3_method_6_code 2 none) B
  have hl := lv_entry ([.ref h, .ref b]) (n := 2) (Nat.le_of_ble_eq_true rfl)
  rw [lg_entry_eq]
  generalize (lg_sl ([.ref h, .ref b]) ++ List.replicate (2 - (lg_sl ([.ref h, .ref b])).length) Slot.unset).toArray = ls at hl ⊢
  have hl : lv_has ls 2 [(0, .ref h), (1, .ref b)] := hl
  rw [hH]
  obtain ⟨g, h1, -⟩ := id hf
  obtain ⟨nb, vb, b1, b2, b3, b4⟩ := id hn
  have hL : ∀ q ∈ ([] : List Loc), (fun q : Nat => q = h ∨ q = r) q.base := fun q hq => by cases hq
  refine lv_aload_n hx hb d_Fi_apply_0 rfl (lv_at hl 1 rfl) ?_
  refine lv_ifnonnull (tgt := 5) hx hb d_Fi_apply_1 (by decide) ?_
  refine lv_aload_n hx hb d_Fi_apply_5 rfl (lv_at hl 0 rfl) ?_
  refine lv_aload_n hx hb d_Fi_apply_6 rfl (lv_at hl 1 rfl) ?_
  refine x_getN (ci := 3) (T := T_Op) hx hb htb u_Op hown hK b1 rfl 0 (by decide) (va_Nw.use rfl (hN.1 _ nf_398)) (fun _ h9 => h9) (v := .ref nb) rfl d_Fi_apply_7 ?_
  refine x_call (F := fun q : Nat => q = h ∨ q = r) (va_runV (As := [.ref nb]) (rest := []) ⟨hx, hb, hml, hown, htb⟩ (c_Fi_remove l hf hs b3 hM1 hM2 n1) (x_cV 1 htb mw_414 mw_3 mw_417 mw_416 ms_6 rfl rfl (by decide +kernel) ⟨Nat.le_of_ble_eq_true rfl, Nat.le_of_ble_eq_true rfl⟩) (x_preV hK hN h1 rfl) rfl rfl hl.1 rfl (lv_room (Nat.le_of_ble_eq_true rfl)) d_Fi_apply_10 ⟨Nat.le_of_ble_eq_true rfl, Nat.le_of_ble_eq_true rfl⟩) hL (fun q hq => hq) (fun H1 locs hP hL => ?_)
  refine W.eq (g2 := F0 m 13 ls []) rfl ?_
  obtain ⟨bs, hf1, hs1, hb1⟩ := hP
  have hk1 := hb1.K hM1 hM2
  have b1 := hk1.at b1 b2
  have b4 := b4.kept hk1
  refine lv_aload_n hx hb d_Fi_apply_13 rfl (lv_at hl 1 rfl) ?_
  refine x_getN (ci := 3) (T := T_Op) hx hb htb u_Op hown hK b1 rfl 1 (by decide) (va_Nw.use rfl (hN.1 _ nf_400)) (fun _ h9 => h9) (v := va_rf vb) rfl d_Fi_apply_14 ?_
  obtain ⟨on, oc⟩ := o
  dsimp only at b3 b4 hs1
  cases vb with
  | none =>
    cases oc with
    | some f => exact False.elim b4
    | none =>
      refine lv_ifnullN (tgt := 39) hx hb d_Fi_apply_17 (by decide) ?_
      exact x_vret hx hb hr hlocks ⟨bs, hf1, hs1, hb1⟩ hL (Nat.le_refl _) (Nat.le_refl _) d_Fi_apply_39
  | some fa =>
    cases oc with
    | none => exact False.elim b4
    | some f =>
      refine lv_ifnull hx hb d_Fi_apply_17 ?_
      have b4 : g_sf D A M fa f H1 := b4
      obtain ⟨na, ca, f1, f2, f3, f4⟩ := id b4
      obtain ⟨g2, h2, -⟩ := id hf1
      have b1 : va_at D x_cl (b, .inr (3, [.ref nb, .ref fa])) H1 := b1
      refine lv_aload_n hx hb d_Fi_apply_20 rfl (lv_at hl 0 rfl) ?_
      refine lv_aload_n hx hb d_Fi_apply_21 rfl (lv_at hl 1 rfl) ?_
      refine x_getN (ci := 3) (T := T_Op) hx hb htb u_Op hown hK b1 rfl 1 (by decide) (va_Nw.use rfl (hN.1 _ nf_400)) (fun _ h9 => h9) (v := .ref fa) rfl d_Fi_apply_22 ?_
      refine x_getN (ci := 2) (T := T_Sf) hx hb htb u_Sf hown hK f1 rfl 0 (by decide) (va_Nw.use rfl (hN.1 _ nf_385)) (fun _ h9 => h9) (v := .ref na) rfl d_Fi_apply_25 ?_
      refine x_call (F := fun q : Nat => q = h ∨ q = r) (va_runV (As := [.ref na]) (rest := []) ⟨hx, hb, hml, hown, htb⟩ (c_Fi_remove l hf1 hs1 f3 hM1 hM2 n1) (x_cV 1 htb mw_414 mw_3 mw_417 mw_416 ms_6 rfl rfl (by decide +kernel) ⟨Nat.le_of_ble_eq_true rfl, Nat.le_of_ble_eq_true rfl⟩) (x_preV hK hN h2 rfl) rfl rfl hl.1 rfl (lv_room (Nat.le_of_ble_eq_true rfl)) d_Fi_apply_28 ⟨Nat.le_of_ble_eq_true rfl, Nat.le_of_ble_eq_true rfl⟩) hL (fun q hq => hq) (fun H2 locs hP hL => ?_)
      refine W.eq (g2 := F0 m 31 ls []) rfl ?_
      obtain ⟨cs, hf2, hs2, hb2⟩ := hP
      have hk2 := hb2.K hM1 hM2
      have b1 := hk2.at b1 b2
      have b4 := b4.kept hk2
      obtain ⟨g3, h3, -⟩ := id hf2
      refine lv_aload_n hx hb d_Fi_apply_31 rfl (lv_at hl 0 rfl) ?_
      refine lv_aload_n hx hb d_Fi_apply_32 rfl (lv_at hl 1 rfl) ?_
      refine x_getN (ci := 3) (T := T_Op) hx hb htb u_Op hown hK b1 rfl 1 (by decide) (va_Nw.use rfl (hN.1 _ nf_400)) (fun _ h9 => h9) (v := .ref fa) rfl d_Fi_apply_33 ?_
      refine x_call (F := fun q : Nat => q = h ∨ q = r) (va_runV (As := [.ref fa]) (rest := []) ⟨hx, hb, hml, hown, htb⟩ (c_Fi_insert l hf2 hs2 b4 hM1 hM2 n1) (x_cV 1 htb mw_203 mw_3 mw_206 mw_205 ms_2 rfl rfl (by decide +kernel) ⟨Nat.le_of_ble_eq_true rfl, Nat.le_of_ble_eq_true rfl⟩) (x_preV hK hN h3 rfl) rfl rfl hl.1 rfl (lv_room (Nat.le_of_ble_eq_true rfl)) d_Fi_apply_36 ⟨Nat.le_of_ble_eq_true rfl, Nat.le_of_ble_eq_true rfl⟩) hL (fun q hq => hq) (fun H3 locs hP hL => ?_)
      refine W.eq (g2 := F0 m 39 ls []) rfl ?_
      obtain ⟨ds, hf3, hs3, hb3⟩ := hP
      exact x_vret hx hb hr hlocks ⟨ds, hf3, hs3, (hb1.trans hb2).trans hb3⟩ hL (Nat.le_refl _) (Nat.le_refl _) d_Fi_apply_39
set_option maxHeartbeats 4000000 in
set_option maxRecDepth 100000 in
theorem c_Jo_clear (l : Launch) {D : va_G} {A : Nat → ClassId} {H0 : Heap} {h r : Nat} {as : List Nat} (hf : g_fr D A 6 2 200 h r as H0) (n1 : h ≠ r) : Met l y_Jo_clear w_Jo_clear { frames := 0, cells := 0, slots := 0, locals := 0 } (x_Pc D A [.ref h] H0) (x_Q none (fun H1 => g_fr D A 6 2 200 h r [] H1 ∧ x_but2 h r H0 H1)) 0 0 (fun q : Nat => q = h ∨ q = r) := by
  refine Met.ofW (cc := prog_4_method_5_code) (maxL := 1) (ret := none) (by decide) rfl ?_
  intro p e s m args below meth c s₁ B hml hv
  obtain ⟨rfl, hH, hK, hN⟩ := hv
  obtain ⟨hx, hb, hr, htb, hown, hlocks⟩ := x_start (wd := Cond.code y_Jo_clear prog_4_method_5_code 1 none) B
  have hl := lv_entry ([.ref h]) (n := 1) (Nat.le_of_ble_eq_true rfl)
  rw [lg_entry_eq]
  generalize (lg_sl ([.ref h]) ++ List.replicate (1 - (lg_sl ([.ref h])).length) Slot.unset).toArray = ls at hl ⊢
  have hl : lv_has ls 1 [(0, .ref h)] := hl
  rw [hH]
  obtain ⟨g, h1, h2, h3, h4⟩ := hf
  have hL : ∀ q ∈ ([] : List Loc), (fun q : Nat => q = h ∨ q = r) q.base := fun q hq => by cases hq
  refine lv_aload_n hx hb d_Jo_clear_0 rfl (lv_at hl 0 rfl) ?_
  refine lv_iconst (v := 0) hx hb d_Jo_clear_1 (by decide) ?_
  refine x_put (F := fun q : Nat => q = h ∨ q = r) (ci := 6) (v := .int 0) (ty := .int) (T := T_Jo) hx hb htb u_Jo t_Jo t_Jo_ok n_Jo hown hK h1 hL (Or.inl rfl) rfl 1 (by decide) (htb _ mw_68) (fun _ h9 => h9) rfl (by decide +kernel) rfl rfl (Nat.le_of_ble_eq_true rfl) d_Jo_clear_2 (fun H1 locs q1 hc1 hL => ?_)
  have q1 : va_at D x_cl (h, .inr (6, [.ref r, .int 0])) H1 := q1
  exact x_vret hx hb hr hlocks ⟨⟨g, q1, hc1.at h2 n1.symm, fun j a q => by simp at q, Nat.zero_le _⟩, x_but2.l hc1⟩ hL (Nat.le_refl _) (Nat.le_refl _) d_Jo_clear_5
set_option maxHeartbeats 4000000 in
set_option maxRecDepth 100000 in
theorem c_Jo_append (l : Launch) {D : va_G} {A : Nat → ClassId} {H0 : Heap} {M : Nat → Prop} {h r b : Nat} {as : List Nat} {o : g_O} (hf : g_fr D A 6 2 200 h r as H0) (hn : g_op D A M b o H0) (n1 : h ≠ r) (hlt : as.length < 200) : Met l y_Jo_append w_Jo_append { frames := 0, cells := 0, slots := 0, locals := 0 } (x_Pc D A [.ref h, .ref b] H0) (x_Q none (fun H1 => g_fr D A 6 2 200 h r (as ++ [b]) H1 ∧ x_but2 h r H0 H1)) 0 0 (fun q : Nat => q = h ∨ q = r) := by
  refine Met.ofW (cc := prog_4_method_3_code) (maxL := 2) (ret := none) (by decide) rfl ?_
  intro p e s m args below meth c s₁ B hml hv
  obtain ⟨rfl, hH, hK, hN⟩ := hv
  obtain ⟨hx, hb, hr, htb, hown, hlocks⟩ := x_start (wd := Cond.code y_Jo_append prog_4_method_3_code 2 none) B
  have hl := lv_entry ([.ref h, .ref b]) (n := 2) (Nat.le_of_ble_eq_true rfl)
  rw [lg_entry_eq]
  generalize (lg_sl ([.ref h, .ref b]) ++ List.replicate (2 - (lg_sl ([.ref h, .ref b])).length) Slot.unset).toArray = ls at hl ⊢
  have hl : lv_has ls 2 [(0, .ref h), (1, .ref b)] := hl
  rw [hH]
  obtain ⟨g, h1, h2, h3, h4⟩ := hf
  obtain ⟨nb, vb, b1, b2, b3, b4⟩ := hn
  have hL : ∀ q ∈ ([] : List Loc), (fun q : Nat => q = h ∨ q = r) q.base := fun q hq => by cases hq
  refine lv_aload_n hx hb d_Jo_append_0 rfl (lv_at hl 0 rfl) ?_
  refine x_get (ci := 6) (T := T_Jo) hx hb htb u_Jo hown hK h1 rfl 1 (by decide) (htb _ mw_68) (fun _ h9 => h9) (v := .int (nI as.length)) rfl d_Jo_append_1 ?_
  refine lv_aload_n hx hb d_Jo_append_4 rfl (lv_at hl 0 rfl) ?_
  refine x_get (ci := 6) (T := T_Jo) hx hb htb u_Jo hown hK h1 rfl 0 (by decide) (htb _ mw_67) (fun _ h9 => h9) (v := .ref r) rfl d_Jo_append_5 ?_
  refine x_alen hx hb hK 2 h2 rfl (v := nI 200) rfl d_Jo_append_8 ?_
  refine lv_icmp_ge (tgt := 32) hx hb d_Jo_append_9 (by decide) (fun c9 => absurd c9 (nI_ge hlt (by omega))) (fun _ => ?_)
  refine lv_aload_n hx hb d_Jo_append_12 rfl (lv_at hl 0 rfl) ?_
  refine x_get (ci := 6) (T := T_Jo) hx hb htb u_Jo hown hK h1 rfl 0 (by decide) (htb _ mw_67) (fun _ h9 => h9) (v := .ref r) rfl d_Jo_append_13 ?_
  refine lv_aload_n hx hb d_Jo_append_16 rfl (lv_at hl 0 rfl) ?_
  refine x_get (ci := 6) (T := T_Jo) hx hb htb u_Jo hown hK h1 rfl 1 (by decide) (htb _ mw_68) (fun _ h9 => h9) (v := .int (nI as.length)) rfl d_Jo_append_17 ?_
  refine lv_aload_n hx hb d_Jo_append_20 rfl (lv_at hl 1 rfl) ?_
  refine x_astq (F := fun q : Nat => q = h ∨ q = r) hx hb hK 2 3 h2 hL (Or.inr rfl) rfl b1 rfl (vp_in_nI (by omega) (by omega)) d_Jo_append_21 (fun H3 locs p2 hm3 hL => ?_)
  have p1 := hm3.at h1 n1
  refine lv_aload_n hx hb d_Jo_append_22 rfl (lv_at hl 0 rfl) ?_
  refine lv_dup hx hb d_Jo_append_23 rfl ?_
  refine x_get (ci := 6) (T := T_Jo) hx hb htb u_Jo hown hK p1 rfl 1 (by decide) (htb _ mw_68) (fun _ h9 => h9) (v := .int (nI as.length)) rfl d_Jo_append_24 ?_
  refine lv_iconst (v := 1) hx hb d_Jo_append_27 (by decide) ?_
  refine lv_iadd hx hb d_Jo_append_28 ?_
  refine x_top (y := nI (as.length + 1)) (nI_1 _) ?_
  refine x_put (F := fun q : Nat => q = h ∨ q = r) (ci := 6) (v := .int (nI (as.length + 1))) (ty := .int) (T := T_Jo) hx hb htb u_Jo t_Jo t_Jo_ok n_Jo hown hK p1 hL (Or.inl rfl) rfl 1 (by decide) (htb _ mw_68) (fun _ h9 => h9) rfl (by decide +kernel) rfl rfl (Nat.le_of_ble_eq_true rfl) d_Jo_append_29 (fun H4 locs p5 hc2 hL => ?_)
  have p5 : va_at D x_cl (h, .inr (6, [.ref r, .int (nI (as.length + 1))])) H4 := p5
  have el : (as ++ [b]).length = as.length + 1 := by rw [List.length_append]; rfl
  refine x_vret hx hb hr hlocks ⟨⟨_, by rw [el]; exact p5, hc2.at p2 n1.symm, fun j a q => ?_, by rw [el]; omega⟩, (x_but2.r hm3).trans (x_but2.l hc2)⟩ hL (Nat.le_refl _) (Nat.le_refl _) d_Jo_append_32
  show va_up g (nI as.length).toNatClampNeg (some b) j = some a
  rw [nI_clamp (by omega)]
  rcases Nat.lt_trichotomy j as.length with w | w | w
  · rw [va_up_ne _ _ (by omega)]; rw [List.getElem?_append_left w] at q; exact h3 j a q
  · subst w; rw [va_up_self]; rw [List.getElem?_append_right (Nat.le_refl _), Nat.sub_self] at q; exact q
  · rw [List.getElem?_eq_none (by rw [List.length_append]; show _ + 1 ≤ j; omega)] at q; cases q
def g_rep (fs : List g_F) : List g_O → List g_F
  | [] => fs
  | o :: os => g_rep (g_ap fs o) os
theorem g_rep_app (fs : List g_F) (os : List g_O) (o : g_O) : g_rep fs (os ++ [o]) = g_ap (g_rep fs os) o := by
  induction os generalizing fs with
  | nil => rfl
  | cons a os ih => exact ih (g_ap fs a)
set_option maxHeartbeats 4000000 in
set_option maxRecDepth 100000 in
theorem c_Jo_replayFirst (l : Launch) {D : va_G} {A : Nat → ClassId} {H0 : Heap} {M : Nat → Prop} {h r j t k : Nat} {as bs : List Nat} {fs : List g_F} {os : List g_O} (hj : g_fr D A 6 2 200 j t bs H0) (ho : g_os D A M bs os H0) (hf : g_fr D A 5 1 60 h r as H0) (hs : g_fs D A M as fs H0) (hM1 : M h) (hM2 : M r) (n1 : h ≠ r) (n2 : j ≠ h) (n3 : j ≠ r) (n4 : t ≠ h) (n5 : t ≠ r) (hk : k ≤ bs.length) : Met l y_Jo_replayFirst w_Jo_replayFirst { frames := 5, cells := 0, slots := 0, locals := 111 } (x_Pc D A [.ref j, .int (nI k), .ref h] H0) (x_Q none (fun H1 => ∃ bs : List Nat, g_fr D A 5 1 60 h r bs H1 ∧ g_fs D A M bs (g_rep fs (os.take k)) H1 ∧ x_but2 h r H0 H1)) 0 0 (fun q : Nat => q = h ∨ q = r) := by
  refine Met.ofW (cc := prog_4_method_4_code) (maxL := 5) (ret := none) (by decide) rfl ?_
  intro p e s m args below meth c s₁ B hml hv
  obtain ⟨rfl, hH, hK, hN⟩ := hv
  obtain ⟨hx, hb, hr, htb, hown, hlocks⟩ := x_start (wd := Cond.code y_Jo_replayFirst prog_4_method_4_code 5 none) B
  have hl := lv_entry ([.ref j, .int (nI k), .ref h]) (n := 5) (Nat.le_of_ble_eq_true rfl)
  rw [lg_entry_eq]
  generalize (lg_sl ([.ref j, .int (nI k), .ref h]) ++ List.replicate (5 - (lg_sl ([.ref j, .int (nI k), .ref h])).length) Slot.unset).toArray = ls at hl ⊢
  have hl : lv_has ls 5 [(0, .ref j), (1, .int (nI k)), (2, .ref h)] := hl
  rw [hH]
  obtain ⟨g, h1, h2, h3, h4⟩ := hj
  have hL : ∀ q ∈ ([] : List Loc), (fun q : Nat => q = h ∨ q = r) q.base := fun q hq => by cases hq
  refine lv_iload_n hx hb d_Jo_replayFirst_0 rfl (lv_at hl 1 rfl) ?_
  refine lv_aload_n hx hb d_Jo_replayFirst_1 rfl (lv_at hl 0 rfl) ?_
  refine x_get (ci := 6) (T := T_Jo) hx hb htb u_Jo hown hK h1 rfl 1 (by decide) (htb _ mw_68) (fun _ h9 => h9) (v := .int (nI bs.length)) rfl d_Jo_replayFirst_2 ?_
  refine va_mmin hx hb (by rw [hml]; exact hl.1.symm) hown (htb _ mw_454) (htb _ mw_315) (htb _ mw_12) (show (Cond.code Lib.Math.min.name Lib.Math.min.code 2 (some .int)).before _ s = true from htb _ mw_316) (Nat.le_of_ble_eq_true rfl) (Nat.le_of_ble_eq_true rfl) (Nat.le_of_ble_eq_true rfl) (Nat.le_of_ble_eq_true rfl) d_Jo_replayFirst_5 ?_
  refine x_top (y := nI k) (if_neg (nI_nlt hk (by omega))) ?_
  refine lv_istore_n (lv' := [(3, .int (nI k)), (0, .ref j), (1, .int (nI k)), (2, .ref h)]) hx hb d_Jo_replayFirst_8 rfl hl (by decide) rfl (fun ls hl => ?_)
  refine lv_iconst (v := 0) hx hb d_Jo_replayFirst_9 (by decide) ?_
  refine lv_istore (lv' := [(4, .int 0), (3, .int (nI k)), (0, .ref j), (1, .int (nI k)), (2, .ref h)]) hx hb d_Jo_replayFirst_10 hl (by decide) rfl (fun ls hl => ?_)
  refine x_loop (σ := Nat × Heap × List Loc × Array Slot) (fun z => F0 m 12 z.2.2.2 []) (fun z => z.2.1) (fun z => z.2.2.1) (fun z => z.1 ≤ k ∧ (∃ cs : List Nat, g_fr D A 5 1 60 h r cs z.2.1 ∧ g_fs D A M cs (g_rep fs (os.take z.1)) z.2.1) ∧ x_but2 h r H0 z.2.1 ∧ (∀ q ∈ z.2.2.1, (fun q : Nat => q = h ∨ q = r) q.base) ∧ lv_has z.2.2.2 5 [(4, .int (nI z.1)), (3, .int (nI k)), (0, .ref j), (2, .ref h)]) (fun z => k - z.1) (s0 := (0, H0, [], ls)) ⟨Nat.zero_le _, ⟨as, hf, hs⟩, x_but2.refl, hL, (lv_sub hl [0, 1, 2, 4] rfl)⟩ ?_
  rintro ⟨i, H, locs, ls⟩ ⟨hi, ⟨cs, hf1, hs1⟩, hb2, hL, hl⟩ ih
  dsimp only at hi hf1 hs1 hb2 hL hl ih ⊢
  have p1 := hb2.at h1 n2 n3
  have p2 := hb2.at h2 n4 n5
  refine lv_iload hx hb d_Jo_replayFirst_12 (lv_at hl 0 rfl) ?_
  refine lv_iload_n hx hb d_Jo_replayFirst_14 rfl (lv_at hl 1 rfl) ?_
  refine lv_icmp_ge (tgt := 35) hx hb d_Jo_replayFirst_15 (by decide) (fun c1 => ?_) (fun c1 => ?_)
  · have e : i = k := Nat.le_antisymm hi (Nat.le_of_not_lt fun q => absurd c1 (nI_ge q (by omega)))
    subst e
    exact x_vret hx hb hr hlocks ⟨cs, hf1, hs1, hb2⟩ hL (Nat.le_refl _) (Nat.le_refl _) d_Jo_replayFirst_35
  · have hlt : i < k := Nat.lt_of_not_le fun q => absurd (nI_le q (by omega)) c1
    obtain ⟨a, ha⟩ := g_ex (as := bs) (j := i) (by omega)
    obtain ⟨o, hoo⟩ := g_ex (as := os) (j := i) (by rw [← ho.1]; omega)
    have f1 := (ho.2 i a o ha hoo).kept (hb2.K hM1 hM2)
    obtain ⟨g5, h5, -⟩ := id hf1
    refine lv_aload_n hx hb d_Jo_replayFirst_18 rfl (lv_at hl 3 rfl) ?_
    refine lv_aload_n hx hb d_Jo_replayFirst_19 rfl (lv_at hl 2 rfl) ?_
    refine x_get (ci := 6) (T := T_Jo) hx hb htb u_Jo hown hK p1 rfl 0 (by decide) (htb _ mw_67) (fun _ h9 => h9) (v := .ref t) rfl d_Jo_replayFirst_20 ?_
    refine lv_iload hx hb d_Jo_replayFirst_23 (lv_at hl 0 rfl) ?_
    refine x_aldq hx hb hK 2 p2 rfl (vp_in_nI (by omega) (by omega)) (r := .ref a) (by rw [nI_clamp (by omega), h3 i a ha]; rfl) d_Jo_replayFirst_25 ?_
    refine x_call (F := fun q : Nat => q = h ∨ q = r) (va_runV (As := [.ref a]) (rest := []) ⟨hx, hb, hml, hown, htb⟩ (c_Fi_apply l hf1 hs1 f1 hM1 hM2 n1) (x_cV 1 htb mw_455 mw_3 mw_413 mw_411 mw_412 rfl rfl (by decide +kernel) ⟨Nat.le_of_ble_eq_true rfl, Nat.le_of_ble_eq_true rfl⟩) (x_preV hK hN h5 rfl) rfl rfl hl.1 rfl (lv_room (Nat.le_of_ble_eq_true rfl)) d_Jo_replayFirst_26 ⟨Nat.le_of_ble_eq_true rfl, Nat.le_of_ble_eq_true rfl⟩) hL (fun q hq => hq) (fun H3 locs hP hL => ?_)
    refine W.eq (g2 := F0 m 29 ls []) rfl ?_
    obtain ⟨ds, hf3, hs3, hb3⟩ := hP
    refine lv_iinc (v := nI (i + 1)) (lv' := [(4, .int (nI (i + 1))), (3, .int (nI k)), (0, .ref j), (2, .ref h)]) hx hb d_Jo_replayFirst_29 hl (k := 0) rfl (nI_1 i) (by decide) rfl (fun ls hl => ?_)
    refine lv_goto (tgt := 12) hx hb d_Jo_replayFirst_32 (by decide) ?_
    exact ih (i + 1, H3, locs, ls) ⟨hlt, ⟨ds, hf3, by show g_fs D A M ds (g_rep fs (os.take (i + 1))) H3; rw [g_take hoo, g_rep_app]; exact hs3⟩, hb2.trans hb3, hL, (lv_sub hl [0, 1, 2, 3] rfl)⟩ (by show k - (i + 1) < k - i; omega)
