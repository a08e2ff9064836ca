def m_Ri (D : va_G) (A : Nat → ClassId) (b i : Nat) (H : Heap) : Prop := ∀ k, 1 ≤ k → k ≤ i → va_at D x_cl (b + k, .inl (A (m_ty k), m_len k, .inl (fun _ => 0))) H
theorem m_stage {D : va_G} {A : Nat → ClassId} {b i : Nat} {H0 H Ha Hb : Heap} (hR : m_Ri D A b i H) (hz : H.size = b + (i + 1)) (old : ∀ q : Nat, q < b → H[q]? = H0[q]?) (kn : va_at D x_cl (b + (i + 1), .inl (A (m_ty (i + 1)), m_len (i + 1), .inl (fun _ => 0))) Ha) (kz : Ha.size = H.size + 1) (ko : ∀ q : Nat, q < H.size → Ha[q]? = H[q]?) (hb : x_but b Ha Hb) : m_Ri D A b (i + 1) Hb ∧ Hb.size = b + (i + 1 + 1) ∧ ∀ q : Nat, q < b → Hb[q]? = H0[q]? := by
  refine ⟨fun k h1 h2 => ?_, by rw [hb.1, kz, hz]; omega, fun q hq => by rw [hb.2 q (by omega), ko q (by omega), old q hq]⟩
  rcases Nat.eq_or_lt_of_le h2 with e | e
  · subst e
    exact hb.at kn (by omega)
  · exact hb.at ((hR k h1 (by omega)).kept (ko _ (by omega))) (by omega)
set_option maxHeartbeats 4000000 in
set_option maxRecDepth 100000 in
theorem c_Mo_init (l : Launch) {D : va_G} {A : Nat → ClassId} {H0 : Heap} {b : Nat} (hz : H0.size = b + 1) (ho : va_at D x_cl (b, .inr (8, [.int 0, .null, .null, .int 0, .int 0, .null, .null, .null, .null, .null, .null, .int 0, .int 0, .int 0, .int 0, .null, .null, .null, .int 0, .null, .null, .null, .null])) H0) : Met l y_Mo_init w_Mo_init { frames := 1, cells := 15, slots := 168560, locals := 12 } (x_Pc D A [.ref b] H0) (x_Q none (fun H1 => m_M D A b 0 ([], [], [], [], [], 0, []) H1 ∧ H1.size = b + 16 ∧ ∀ q : Nat, q < b → H1[q]? = H0[q]?)) 15 168560 (fun q : Nat => b ≤ q) := by
  refine Met.ofW (cc := prog_10_method_1_code) (maxL := 1) (ret := none) (by decide) rfl ?_
  intro p e s m args below meth c s₁ B hml hv
  obtain ⟨rfl, hH, hK, hN⟩ := hv
  obtain ⟨hx, hb, hr, htb, hown, hlocks⟩ := x_start (wd := Cond.code y_Mo_init prog_10_method_1_code 1 none) B
  have hin : meth.name = "<init>" := (name_of_methodNamed B.named B.method).1
  have hl := lv_entry ([.ref b]) (n := 1) (Nat.le_of_ble_eq_true rfl)
  rw [lg_entry_eq]
  generalize (lg_sl ([.ref b]) ++ List.replicate (1 - (lg_sl ([.ref b])).length) Slot.unset).toArray = ls at hl ⊢
  have hl : lv_has ls 1 [(0, .ref b)] := hl
  rw [hH]
  have hL : ∀ q ∈ ([] : List Loc), (fun q : Nat => b ≤ q) q.base := fun q hq => by cases hq
  have st : m_Ri D A b 0 H0 ∧ H0.size = b + (0 + 1) ∧ ∀ q : Nat, q < b → H0[q]? = H0[q]? := ⟨fun k h1 h2 => by omega, hz, fun _ _ => rfl⟩
  refine lv_aload_n hx hb d_Mo_init_0 rfl (lv_at hl 0 rfl) ?_
  refine W.objInit hx hb hown (htb _ mw_461) (htb _ mw_26) (show (Cond.code objectInit ⟨#[0xb1]⟩ 1 none).before _ s = true from htb _ mw_27) rfl (by rw [hml]; exact hl.1) rfl d_Mo_init_1 (Nat.le_of_ble_eq_true rfl) (Nat.le_of_ble_eq_true rfl) ?_
  refine W.eq (g2 := F0 m 4 ls []) rfl ?_
  refine lv_aload_n hx hb d_Mo_init_4 rfl (lv_at hl 0 rfl) ?_
  refine lv_sipush (v := 400) hx hb d_Mo_init_5 (by decide) ?_
  refine x_newa (atype := .byte) hx hb (htb _ mw_42) (ty := .byte) rfl hK 0 rfl (fun C q => by cases q) (N' := 400) (a0 := (400, .inl (fun _ => 0))) rfl (by decide) (by decide) (by decide) (Nat.le_of_ble_eq_true rfl) (Nat.le_of_ble_eq_true rfl) d_Mo_init_8 (fun Ha1 k1 k1z k1o => ?_)
  have hoo := ho.kept (k1o b (by rw [st.2.1]; omega))
  rw [show H0.size = b + 1 from st.2.1] at k1 ⊢
  refine x_putF (F := fun q : Nat => b ≤ q) (ci := 8) (v := .ref (b + 1)) (ty := .array .byte) (T := T_Mo) hx hb htb u_Mo t_Mo t_Mo_ok n_Mo hown hK hoo hL (Nat.le_refl _) rfl 1 (by decide) (htb _ mw_464) (fun _ h9 => h9) rfl hin rfl (by decide +kernel) rfl rfl (Nat.le_of_ble_eq_true rfl) d_Mo_init_10 (fun Hb1 locs ho1 hc1 hL => ?_)
  have ho1 : va_at D x_cl (b, .inr (8, [.int 0, .ref (b + 1), .null, .int 0, .int 0, .null, .null, .null, .null, .null, .null, .int 0, .int 0, .int 0, .int 0, .null, .null, .null, .int 0, .null, .null, .null, .null])) Hb1 := ho1
  have st := m_stage st.1 st.2.1 st.2.2 k1 k1z k1o hc1
  have ho := ho1
  clear hoo ho1 k1 k1z k1o hc1
  refine lv_aload_n hx hb d_Mo_init_13 rfl (lv_at hl 0 rfl) ?_
  refine lv_bipush (v := 100) hx hb d_Mo_init_14 (by decide) ?_
  refine x_newa (atype := .byte) hx hb (htb _ mw_42) (ty := .byte) rfl hK 0 rfl (fun C q => by cases q) (N' := 100) (a0 := (100, .inl (fun _ => 0))) rfl (by decide) (by decide) (by decide) (Nat.le_of_ble_eq_true rfl) (Nat.le_of_ble_eq_true rfl) d_Mo_init_16 (fun Ha2 k2 k2z k2o => ?_)
  have hoo := ho.kept (k2o b (by rw [st.2.1]; omega))
  rw [show Hb1.size = b + 2 from st.2.1] at k2 ⊢
  refine x_putF (F := fun q : Nat => b ≤ q) (ci := 8) (v := .ref (b + 2)) (ty := .array .byte) (T := T_Mo) hx hb htb u_Mo t_Mo t_Mo_ok n_Mo hown hK hoo hL (Nat.le_refl _) rfl 2 (by decide) (htb _ mw_465) (fun _ h9 => h9) rfl hin rfl (by decide +kernel) rfl rfl (Nat.le_of_ble_eq_true rfl) d_Mo_init_18 (fun Hb2 locs ho2 hc2 hL => ?_)
  have ho2 : va_at D x_cl (b, .inr (8, [.int 0, .ref (b + 1), .ref (b + 2), .int 0, .int 0, .null, .null, .null, .null, .null, .null, .int 0, .int 0, .int 0, .int 0, .null, .null, .null, .int 0, .null, .null, .null, .null])) Hb2 := ho2
  have st := m_stage st.1 st.2.1 st.2.2 k2 k2z k2o hc2
  have ho := ho2
  clear hoo ho2 k2 k2z k2o hc2
  refine lv_aload_n hx hb d_Mo_init_21 rfl (lv_at hl 0 rfl) ?_
  refine lv_sipush (v := 320) hx hb d_Mo_init_22 (by decide) ?_
  refine x_newa (atype := .int) hx hb (htb _ mw_533) (ty := .int) rfl hK 3 rfl (fun C q => by cases q) (N' := 320) (a0 := (320, .inl (fun _ => 0))) rfl (by decide) (by decide) (by decide) (Nat.le_of_ble_eq_true rfl) (Nat.le_of_ble_eq_true rfl) d_Mo_init_25 (fun Ha3 k3 k3z k3o => ?_)
  have hoo := ho.kept (k3o b (by rw [st.2.1]; omega))
  rw [show Hb2.size = b + 3 from st.2.1] at k3 ⊢
  refine x_putF (F := fun q : Nat => b ≤ q) (ci := 8) (v := .ref (b + 3)) (ty := .array .int) (T := T_Mo) hx hb htb u_Mo t_Mo t_Mo_ok n_Mo hown hK hoo hL (Nat.le_refl _) rfl 5 (by decide) (htb _ mw_468) (fun _ h9 => h9) rfl hin rfl (by decide +kernel) rfl rfl (Nat.le_of_ble_eq_true rfl) d_Mo_init_27 (fun Hb3 locs ho3 hc3 hL => ?_)
  have ho3 : va_at D x_cl (b, .inr (8, [.int 0, .ref (b + 1), .ref (b + 2), .int 0, .int 0, .ref (b + 3), .null, .null, .null, .null, .null, .int 0, .int 0, .int 0, .int 0, .null, .null, .null, .int 0, .null, .null, .null, .null])) Hb3 := ho3
  have st := m_stage st.1 st.2.1 st.2.2 k3 k3z k3o hc3
  have ho := ho3
  clear hoo ho3 k3 k3z k3o hc3
  refine lv_aload_n hx hb d_Mo_init_30 rfl (lv_at hl 0 rfl) ?_
  refine lv_sipush (v := 320) hx hb d_Mo_init_31 (by decide) ?_
  refine x_newa (atype := .int) hx hb (htb _ mw_533) (ty := .int) rfl hK 3 rfl (fun C q => by cases q) (N' := 320) (a0 := (320, .inl (fun _ => 0))) rfl (by decide) (by decide) (by decide) (Nat.le_of_ble_eq_true rfl) (Nat.le_of_ble_eq_true rfl) d_Mo_init_34 (fun Ha4 k4 k4z k4o => ?_)
  have hoo := ho.kept (k4o b (by rw [st.2.1]; omega))
  rw [show Hb3.size = b + 4 from st.2.1] at k4 ⊢
  refine x_putF (F := fun q : Nat => b ≤ q) (ci := 8) (v := .ref (b + 4)) (ty := .array .int) (T := T_Mo) hx hb htb u_Mo t_Mo t_Mo_ok n_Mo hown hK hoo hL (Nat.le_refl _) rfl 6 (by decide) (htb _ mw_469) (fun _ h9 => h9) rfl hin rfl (by decide +kernel) rfl rfl (Nat.le_of_ble_eq_true rfl) d_Mo_init_36 (fun Hb4 locs ho4 hc4 hL => ?_)
  have ho4 : va_at D x_cl (b, .inr (8, [.int 0, .ref (b + 1), .ref (b + 2), .int 0, .int 0, .ref (b + 3), .ref (b + 4), .null, .null, .null, .null, .int 0, .int 0, .int 0, .int 0, .null, .null, .null, .int 0, .null, .null, .null, .null])) Hb4 := ho4
  have st := m_stage st.1 st.2.1 st.2.2 k4 k4z k4o hc4
  have ho := ho4
  clear hoo ho4 k4 k4z k4o hc4
  refine lv_aload_n hx hb d_Mo_init_39 rfl (lv_at hl 0 rfl) ?_
  refine lv_sipush (v := 320) hx hb d_Mo_init_40 (by decide) ?_
  refine x_newa (atype := .int) hx hb (htb _ mw_533) (ty := .int) rfl hK 3 rfl (fun C q => by cases q) (N' := 320) (a0 := (320, .inl (fun _ => 0))) rfl (by decide) (by decide) (by decide) (Nat.le_of_ble_eq_true rfl) (Nat.le_of_ble_eq_true rfl) d_Mo_init_43 (fun Ha5 k5 k5z k5o => ?_)
  have hoo := ho.kept (k5o b (by rw [st.2.1]; omega))
  rw [show Hb4.size = b + 5 from st.2.1] at k5 ⊢
  refine x_putF (F := fun q : Nat => b ≤ q) (ci := 8) (v := .ref (b + 5)) (ty := .array .int) (T := T_Mo) hx hb htb u_Mo t_Mo t_Mo_ok n_Mo hown hK hoo hL (Nat.le_refl _) rfl 7 (by decide) (htb _ mw_470) (fun _ h9 => h9) rfl hin rfl (by decide +kernel) rfl rfl (Nat.le_of_ble_eq_true rfl) d_Mo_init_45 (fun Hb5 locs ho5 hc5 hL => ?_)
  have ho5 : va_at D x_cl (b, .inr (8, [.int 0, .ref (b + 1), .ref (b + 2), .int 0, .int 0, .ref (b + 3), .ref (b + 4), .ref (b + 5), .null, .null, .null, .int 0, .int 0, .int 0, .int 0, .null, .null, .null, .int 0, .null, .null, .null, .null])) Hb5 := ho5
  have st := m_stage st.1 st.2.1 st.2.2 k5 k5z k5o hc5
  have ho := ho5
  clear hoo ho5 k5 k5z k5o hc5
  refine lv_aload_n hx hb d_Mo_init_48 rfl (lv_at hl 0 rfl) ?_
  refine lv_sipush (v := 320) hx hb d_Mo_init_49 (by decide) ?_
  refine x_newa (atype := .int) hx hb (htb _ mw_533) (ty := .int) rfl hK 3 rfl (fun C q => by cases q) (N' := 320) (a0 := (320, .inl (fun _ => 0))) rfl (by decide) (by decide) (by decide) (Nat.le_of_ble_eq_true rfl) (Nat.le_of_ble_eq_true rfl) d_Mo_init_52 (fun Ha6 k6 k6z k6o => ?_)
  have hoo := ho.kept (k6o b (by rw [st.2.1]; omega))
  rw [show Hb5.size = b + 6 from st.2.1] at k6 ⊢
  refine x_putF (F := fun q : Nat => b ≤ q) (ci := 8) (v := .ref (b + 6)) (ty := .array .int) (T := T_Mo) hx hb htb u_Mo t_Mo t_Mo_ok n_Mo hown hK hoo hL (Nat.le_refl _) rfl 8 (by decide) (htb _ mw_471) (fun _ h9 => h9) rfl hin rfl (by decide +kernel) rfl rfl (Nat.le_of_ble_eq_true rfl) d_Mo_init_54 (fun Hb6 locs ho6 hc6 hL => ?_)
  have ho6 : va_at D x_cl (b, .inr (8, [.int 0, .ref (b + 1), .ref (b + 2), .int 0, .int 0, .ref (b + 3), .ref (b + 4), .ref (b + 5), .ref (b + 6), .null, .null, .int 0, .int 0, .int 0, .int 0, .null, .null, .null, .int 0, .null, .null, .null, .null])) Hb6 := ho6
  have st := m_stage st.1 st.2.1 st.2.2 k6 k6z k6o hc6
  have ho := ho6
  clear hoo ho6 k6 k6z k6o hc6
  refine lv_aload_n hx hb d_Mo_init_57 rfl (lv_at hl 0 rfl) ?_
  refine lv_sipush (v := 32000) hx hb d_Mo_init_58 (by decide) ?_
  refine x_newa (atype := .byte) hx hb (htb _ mw_42) (ty := .byte) rfl hK 0 rfl (fun C q => by cases q) (N' := 32000) (a0 := (32000, .inl (fun _ => 0))) rfl (by decide) (by decide) (by decide) (Nat.le_of_ble_eq_true rfl) (Nat.le_of_ble_eq_true rfl) d_Mo_init_61 (fun Ha7 k7 k7z k7o => ?_)
  have hoo := ho.kept (k7o b (by rw [st.2.1]; omega))
  rw [show Hb6.size = b + 7 from st.2.1] at k7 ⊢
  refine x_putF (F := fun q : Nat => b ≤ q) (ci := 8) (v := .ref (b + 7)) (ty := .array .byte) (T := T_Mo) hx hb htb u_Mo t_Mo t_Mo_ok n_Mo hown hK hoo hL (Nat.le_refl _) rfl 9 (by decide) (htb _ mw_472) (fun _ h9 => h9) rfl hin rfl (by decide +kernel) rfl rfl (Nat.le_of_ble_eq_true rfl) d_Mo_init_63 (fun Hb7 locs ho7 hc7 hL => ?_)
  have ho7 : va_at D x_cl (b, .inr (8, [.int 0, .ref (b + 1), .ref (b + 2), .int 0, .int 0, .ref (b + 3), .ref (b + 4), .ref (b + 5), .ref (b + 6), .ref (b + 7), .null, .int 0, .int 0, .int 0, .int 0, .null, .null, .null, .int 0, .null, .null, .null, .null])) Hb7 := ho7
  have st := m_stage st.1 st.2.1 st.2.2 k7 k7z k7o hc7
  have ho := ho7
  clear hoo ho7 k7 k7z k7o hc7
  refine lv_aload_n hx hb d_Mo_init_66 rfl (lv_at hl 0 rfl) ?_
  refine lv_ldc (v := 128000) hx hb hown (htb _ mw_462) d_Mo_init_67 ?_
  refine x_newa (atype := .byte) hx hb (htb _ mw_42) (ty := .byte) rfl hK 0 rfl (fun C q => by cases q) (N' := 128000) (a0 := (128000, .inl (fun _ => 0))) rfl (by decide) (by decide) (by decide) (Nat.le_of_ble_eq_true rfl) (Nat.le_of_ble_eq_true rfl) d_Mo_init_69 (fun Ha8 k8 k8z k8o => ?_)
  have hoo := ho.kept (k8o b (by rw [st.2.1]; omega))
  rw [show Hb7.size = b + 8 from st.2.1] at k8 ⊢
  refine x_putF (F := fun q : Nat => b ≤ q) (ci := 8) (v := .ref (b + 8)) (ty := .array .byte) (T := T_Mo) hx hb htb u_Mo t_Mo t_Mo_ok n_Mo hown hK hoo hL (Nat.le_refl _) rfl 10 (by decide) (htb _ mw_473) (fun _ h9 => h9) rfl hin rfl (by decide +kernel) rfl rfl (Nat.le_of_ble_eq_true rfl) d_Mo_init_71 (fun Hb8 locs ho8 hc8 hL => ?_)
  have ho8 : va_at D x_cl (b, .inr (8, [.int 0, .ref (b + 1), .ref (b + 2), .int 0, .int 0, .ref (b + 3), .ref (b + 4), .ref (b + 5), .ref (b + 6), .ref (b + 7), .ref (b + 8), .int 0, .int 0, .int 0, .int 0, .null, .null, .null, .int 0, .null, .null, .null, .null])) Hb8 := ho8
  have st := m_stage st.1 st.2.1 st.2.2 k8 k8z k8o hc8
  have ho := ho8
  clear hoo ho8 k8 k8z k8o hc8
  refine lv_aload_n hx hb d_Mo_init_74 rfl (lv_at hl 0 rfl) ?_
  refine lv_sipush (v := 200) hx hb d_Mo_init_75 (by decide) ?_
  refine x_newa (atype := .int) hx hb (htb _ mw_533) (ty := .int) rfl hK 3 rfl (fun C q => by cases q) (N' := 200) (a0 := (200, .inl (fun _ => 0))) rfl (by decide) (by decide) (by decide) (Nat.le_of_ble_eq_true rfl) (Nat.le_of_ble_eq_true rfl) d_Mo_init_78 (fun Ha9 k9 k9z k9o => ?_)
  have hoo := ho.kept (k9o b (by rw [st.2.1]; omega))
  rw [show Hb8.size = b + 9 from st.2.1] at k9 ⊢
  refine x_putF (F := fun q : Nat => b ≤ q) (ci := 8) (v := .ref (b + 9)) (ty := .array .int) (T := T_Mo) hx hb htb u_Mo t_Mo t_Mo_ok n_Mo hown hK hoo hL (Nat.le_refl _) rfl 15 (by decide) (htb _ mw_478) (fun _ h9 => h9) rfl hin rfl (by decide +kernel) rfl rfl (Nat.le_of_ble_eq_true rfl) d_Mo_init_80 (fun Hb9 locs ho9 hc9 hL => ?_)
  have ho9 : va_at D x_cl (b, .inr (8, [.int 0, .ref (b + 1), .ref (b + 2), .int 0, .int 0, .ref (b + 3), .ref (b + 4), .ref (b + 5), .ref (b + 6), .ref (b + 7), .ref (b + 8), .int 0, .int 0, .int 0, .int 0, .ref (b + 9), .null, .null, .int 0, .null, .null, .null, .null])) Hb9 := ho9
  have st := m_stage st.1 st.2.1 st.2.2 k9 k9z k9o hc9
  have ho := ho9
  clear hoo ho9 k9 k9z k9o hc9
  refine lv_aload_n hx hb d_Mo_init_83 rfl (lv_at hl 0 rfl) ?_
  refine lv_sipush (v := 200) hx hb d_Mo_init_84 (by decide) ?_
  refine x_newa (atype := .int) hx hb (htb _ mw_533) (ty := .int) rfl hK 3 rfl (fun C q => by cases q) (N' := 200) (a0 := (200, .inl (fun _ => 0))) rfl (by decide) (by decide) (by decide) (Nat.le_of_ble_eq_true rfl) (Nat.le_of_ble_eq_true rfl) d_Mo_init_87 (fun Ha10 k10 k10z k10o => ?_)
  have hoo := ho.kept (k10o b (by rw [st.2.1]; omega))
  rw [show Hb9.size = b + 10 from st.2.1] at k10 ⊢
  refine x_putF (F := fun q : Nat => b ≤ q) (ci := 8) (v := .ref (b + 10)) (ty := .array .int) (T := T_Mo) hx hb htb u_Mo t_Mo t_Mo_ok n_Mo hown hK hoo hL (Nat.le_refl _) rfl 16 (by decide) (htb _ mw_479) (fun _ h9 => h9) rfl hin rfl (by decide +kernel) rfl rfl (Nat.le_of_ble_eq_true rfl) d_Mo_init_89 (fun Hb10 locs ho10 hc10 hL => ?_)
  have ho10 : va_at D x_cl (b, .inr (8, [.int 0, .ref (b + 1), .ref (b + 2), .int 0, .int 0, .ref (b + 3), .ref (b + 4), .ref (b + 5), .ref (b + 6), .ref (b + 7), .ref (b + 8), .int 0, .int 0, .int 0, .int 0, .ref (b + 9), .ref (b + 10), .null, .int 0, .null, .null, .null, .null])) Hb10 := ho10
  have st := m_stage st.1 st.2.1 st.2.2 k10 k10z k10o hc10
  have ho := ho10
  clear hoo ho10 k10 k10z k10o hc10
  refine lv_aload_n hx hb d_Mo_init_92 rfl (lv_at hl 0 rfl) ?_
  refine lv_sipush (v := 200) hx hb d_Mo_init_93 (by decide) ?_
  refine x_newa (atype := .int) hx hb (htb _ mw_533) (ty := .int) rfl hK 3 rfl (fun C q => by cases q) (N' := 200) (a0 := (200, .inl (fun _ => 0))) rfl (by decide) (by decide) (by decide) (Nat.le_of_ble_eq_true rfl) (Nat.le_of_ble_eq_true rfl) d_Mo_init_96 (fun Ha11 k11 k11z k11o => ?_)
  have hoo := ho.kept (k11o b (by rw [st.2.1]; omega))
  rw [show Hb10.size = b + 11 from st.2.1] at k11 ⊢
  refine x_putF (F := fun q : Nat => b ≤ q) (ci := 8) (v := .ref (b + 11)) (ty := .array .int) (T := T_Mo) hx hb htb u_Mo t_Mo t_Mo_ok n_Mo hown hK hoo hL (Nat.le_refl _) rfl 17 (by decide) (htb _ mw_480) (fun _ h9 => h9) rfl hin rfl (by decide +kernel) rfl rfl (Nat.le_of_ble_eq_true rfl) d_Mo_init_98 (fun Hb11 locs ho11 hc11 hL => ?_)
  have ho11 : va_at D x_cl (b, .inr (8, [.int 0, .ref (b + 1), .ref (b + 2), .int 0, .int 0, .ref (b + 3), .ref (b + 4), .ref (b + 5), .ref (b + 6), .ref (b + 7), .ref (b + 8), .int 0, .int 0, .int 0, .int 0, .ref (b + 9), .ref (b + 10), .ref (b + 11), .int 0, .null, .null, .null, .null])) Hb11 := ho11
  have st := m_stage st.1 st.2.1 st.2.2 k11 k11z k11o hc11
  have ho := ho11
  clear hoo ho11 k11 k11z k11o hc11
  refine lv_aload_n hx hb d_Mo_init_101 rfl (lv_at hl 0 rfl) ?_
  refine lv_bipush (v := 60) hx hb d_Mo_init_102 (by decide) ?_
  refine x_newa (atype := .int) hx hb (htb _ mw_533) (ty := .int) rfl hK 3 rfl (fun C q => by cases q) (N' := 60) (a0 := (60, .inl (fun _ => 0))) rfl (by decide) (by decide) (by decide) (Nat.le_of_ble_eq_true rfl) (Nat.le_of_ble_eq_true rfl) d_Mo_init_104 (fun Ha12 k12 k12z k12o => ?_)
  have hoo := ho.kept (k12o b (by rw [st.2.1]; omega))
  rw [show Hb11.size = b + 12 from st.2.1] at k12 ⊢
  refine x_putF (F := fun q : Nat => b ≤ q) (ci := 8) (v := .ref (b + 12)) (ty := .array .int) (T := T_Mo) hx hb htb u_Mo t_Mo t_Mo_ok n_Mo hown hK hoo hL (Nat.le_refl _) rfl 19 (by decide) (htb _ mw_482) (fun _ h9 => h9) rfl hin rfl (by decide +kernel) rfl rfl (Nat.le_of_ble_eq_true rfl) d_Mo_init_106 (fun Hb12 locs ho12 hc12 hL => ?_)
  have ho12 : va_at D x_cl (b, .inr (8, [.int 0, .ref (b + 1), .ref (b + 2), .int 0, .int 0, .ref (b + 3), .ref (b + 4), .ref (b + 5), .ref (b + 6), .ref (b + 7), .ref (b + 8), .int 0, .int 0, .int 0, .int 0, .ref (b + 9), .ref (b + 10), .ref (b + 11), .int 0, .ref (b + 12), .null, .null, .null])) Hb12 := ho12
  have st := m_stage st.1 st.2.1 st.2.2 k12 k12z k12o hc12
  have ho := ho12
  clear hoo ho12 k12 k12z k12o hc12
  refine lv_aload_n hx hb d_Mo_init_109 rfl (lv_at hl 0 rfl) ?_
  refine lv_bipush (v := 60) hx hb d_Mo_init_110 (by decide) ?_
  refine x_newa (atype := .int) hx hb (htb _ mw_533) (ty := .int) rfl hK 3 rfl (fun C q => by cases q) (N' := 60) (a0 := (60, .inl (fun _ => 0))) rfl (by decide) (by decide) (by decide) (Nat.le_of_ble_eq_true rfl) (Nat.le_of_ble_eq_true rfl) d_Mo_init_112 (fun Ha13 k13 k13z k13o => ?_)
  have hoo := ho.kept (k13o b (by rw [st.2.1]; omega))
  rw [show Hb12.size = b + 13 from st.2.1] at k13 ⊢
  refine x_putF (F := fun q : Nat => b ≤ q) (ci := 8) (v := .ref (b + 13)) (ty := .array .int) (T := T_Mo) hx hb htb u_Mo t_Mo t_Mo_ok n_Mo hown hK hoo hL (Nat.le_refl _) rfl 20 (by decide) (htb _ mw_483) (fun _ h9 => h9) rfl hin rfl (by decide +kernel) rfl rfl (Nat.le_of_ble_eq_true rfl) d_Mo_init_114 (fun Hb13 locs ho13 hc13 hL => ?_)
  have ho13 : va_at D x_cl (b, .inr (8, [.int 0, .ref (b + 1), .ref (b + 2), .int 0, .int 0, .ref (b + 3), .ref (b + 4), .ref (b + 5), .ref (b + 6), .ref (b + 7), .ref (b + 8), .int 0, .int 0, .int 0, .int 0, .ref (b + 9), .ref (b + 10), .ref (b + 11), .int 0, .ref (b + 12), .ref (b + 13), .null, .null])) Hb13 := ho13
  have st := m_stage st.1 st.2.1 st.2.2 k13 k13z k13o hc13
  have ho := ho13
  clear hoo ho13 k13 k13z k13o hc13
  refine lv_aload_n hx hb d_Mo_init_117 rfl (lv_at hl 0 rfl) ?_
  refine lv_bipush (v := 60) hx hb d_Mo_init_118 (by decide) ?_
  refine x_newa (atype := .int) hx hb (htb _ mw_533) (ty := .int) rfl hK 3 rfl (fun C q => by cases q) (N' := 60) (a0 := (60, .inl (fun _ => 0))) rfl (by decide) (by decide) (by decide) (Nat.le_of_ble_eq_true rfl) (Nat.le_of_ble_eq_true rfl) d_Mo_init_120 (fun Ha14 k14 k14z k14o => ?_)
  have hoo := ho.kept (k14o b (by rw [st.2.1]; omega))
  rw [show Hb13.size = b + 14 from st.2.1] at k14 ⊢
  refine x_putF (F := fun q : Nat => b ≤ q) (ci := 8) (v := .ref (b + 14)) (ty := .array .int) (T := T_Mo) hx hb htb u_Mo t_Mo t_Mo_ok n_Mo hown hK hoo hL (Nat.le_refl _) rfl 21 (by decide) (htb _ mw_484) (fun _ h9 => h9) rfl hin rfl (by decide +kernel) rfl rfl (Nat.le_of_ble_eq_true rfl) d_Mo_init_122 (fun Hb14 locs ho14 hc14 hL => ?_)
  have ho14 : va_at D x_cl (b, .inr (8, [.int 0, .ref (b + 1), .ref (b + 2), .int 0, .int 0, .ref (b + 3), .ref (b + 4), .ref (b + 5), .ref (b + 6), .ref (b + 7), .ref (b + 8), .int 0, .int 0, .int 0, .int 0, .ref (b + 9), .ref (b + 10), .ref (b + 11), .int 0, .ref (b + 12), .ref (b + 13), .ref (b + 14), .null])) Hb14 := ho14
  have st := m_stage st.1 st.2.1 st.2.2 k14 k14z k14o hc14
  have ho := ho14
  clear hoo ho14 k14 k14z k14o hc14
  refine lv_aload_n hx hb d_Mo_init_125 rfl (lv_at hl 0 rfl) ?_
  refine lv_sipush (v := 6000) hx hb d_Mo_init_126 (by decide) ?_
  refine x_newa (atype := .byte) hx hb (htb _ mw_42) (ty := .byte) rfl hK 0 rfl (fun C q => by cases q) (N' := 6000) (a0 := (6000, .inl (fun _ => 0))) rfl (by decide) (by decide) (by decide) (Nat.le_of_ble_eq_true rfl) (Nat.le_of_ble_eq_true rfl) d_Mo_init_129 (fun Ha15 k15 k15z k15o => ?_)
  have hoo := ho.kept (k15o b (by rw [st.2.1]; omega))
  rw [show Hb14.size = b + 15 from st.2.1] at k15 ⊢
  refine x_putF (F := fun q : Nat => b ≤ q) (ci := 8) (v := .ref (b + 15)) (ty := .array .byte) (T := T_Mo) hx hb htb u_Mo t_Mo t_Mo_ok n_Mo hown hK hoo hL (Nat.le_refl _) rfl 22 (by decide) (htb _ mw_485) (fun _ h9 => h9) rfl hin rfl (by decide +kernel) rfl rfl (Nat.le_of_ble_eq_true rfl) d_Mo_init_131 (fun Hb15 locs ho15 hc15 hL => ?_)
  have ho15 : va_at D x_cl (b, .inr (8, [.int 0, .ref (b + 1), .ref (b + 2), .int 0, .int 0, .ref (b + 3), .ref (b + 4), .ref (b + 5), .ref (b + 6), .ref (b + 7), .ref (b + 8), .int 0, .int 0, .int 0, .int 0, .ref (b + 9), .ref (b + 10), .ref (b + 11), .int 0, .ref (b + 12), .ref (b + 13), .ref (b + 14), .ref (b + 15)])) Hb15 := ho15
  have st := m_stage st.1 st.2.1 st.2.2 k15 k15z k15o hc15
  have ho := ho15
  clear hoo ho15 k15 k15z k15o hc15
  have hR : m_R D A b (fun _ _ => 0) Hb15 := fun k h1 h2 => st.1 k h1 h2
  have hV : m_V (fun _ _ => 0) ([], [], [], [], [], 0, []) := ⟨m_row.nil, m_row.nil, ⟨fun i f h => by simp at h, Nat.zero_le _⟩, ⟨fun i f h => by simp at h, Nat.zero_le _⟩, ⟨fun i f h => by simp at h, Nat.zero_le _⟩, fun i f h => by simp at h, Nat.zero_le _⟩
  exact x_vret hx hb hr hlocks ⟨⟨_, ho, hR, hV⟩, st.2.1, st.2.2⟩ hL (Nat.le_refl _) (Nat.le_refl _) d_Mo_init_134
