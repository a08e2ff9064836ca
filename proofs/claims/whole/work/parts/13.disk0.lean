/-- what a disk holds: tape, path, files now and as kept, what was listed, operations, how many there were -/
abbrev g_S : Type := List Nat × List Nat × List g_F × List g_F × List g_F × List g_O × Nat
def g_D (D : va_G) (A : Nat → ClassId) (a z : Nat) (S : g_S) (H : Heap) : Prop :=
  ∃ (pa : Nat) (as bs cs ds : List Nat), va_at D x_cl (a, .inr (7, [.ref z, .ref (z + 2), .ref (z + 4), .ref (z + 6), .ref (z + 8), .ref pa, .int (nI S.2.2.2.2.2.2)])) H ∧ g_tp D A z (z + 1) S.1 H ∧ g_bs D A (g_Mx a z) pa S.2.1 H ∧
    (g_fr D A 5 1 60 (z + 2) (z + 3) as H ∧ g_fs D A (g_Mx a z) as S.2.2.1 H) ∧ (g_fr D A 5 1 60 (z + 4) (z + 5) bs H ∧ g_fs D A (g_Mx a z) bs S.2.2.2.1 H) ∧ (g_fr D A 5 1 60 (z + 6) (z + 7) cs H ∧ g_fs D A (g_Mx a z) cs S.2.2.2.2.1 H) ∧ (g_fr D A 6 2 200 (z + 8) (z + 9) ds H ∧ g_os D A (g_Mx a z) ds S.2.2.2.2.2.1 H) ∧ a < z ∧ z + 29 ≤ H.size
theorem g_fr.kept {D : va_G} {A : Nat → ClassId} {ci t n h r : Nat} {as : List Nat} {H H1 : Heap} (x : g_fr D A ci t n h r as H) (h1 : H1[h]? = H[h]?) (h2 : H1[r]? = H[r]?) : g_fr D A ci t n h r as H1 := by
  obtain ⟨g, q1, q2, q3⟩ := x
  exact ⟨g, q1.kept h1, q2.kept h2, q3⟩
theorem g_tp.kept {D : va_G} {A : Nat → ClassId} {t r : Nat} {us : List Nat} {H H1 : Heap} (x : g_tp D A t r us H) (h1 : H1[t]? = H[t]?) (h2 : H1[r]? = H[r]?) : g_tp D A t r us H1 := by
  obtain ⟨f, q1, q2, q3⟩ := x
  exact ⟨f, q1.kept h1, q2.kept h2, q3⟩
theorem g_fs.nil {D : va_G} {A : Nat → ClassId} {M : Nat → Prop} {H : Heap} : g_fs D A M [] [] H := ⟨rfl, fun j a f h => by simp at h⟩
theorem g_os.nil {D : va_G} {A : Nat → ClassId} {M : Nat → Prop} {H : Heap} : g_os D A M [] [] H := ⟨rfl, fun j a f h => by simp at h⟩
theorem x_le {a b c : Nat} (h : a ≤ b) (h2 : b ≤ c) : a ≤ c := Nat.le_trans h h2
theorem x_stage {H Ha Hb Hc : Heap} {a : Nat} (kz : Ha.size = H.size + 1) (ko : ∀ q : Nat, q < H.size → Ha[q]? = H[q]?) (mz : Hb.size = Ha.size + 1) (mo : ∀ q : Nat, q < Ha.size → q ≠ H.size → Hb[q]? = Ha[q]?) (hb : x_but a Hb Hc) : Hc.size = H.size + 2 ∧ ∀ q : Nat, q < H.size → q ≠ a → Hc[q]? = H[q]? :=
  ⟨by rw [hb.1, mz, kz], fun q hq hqa => by rw [hb.2 q hqa, mo q (by omega) (by omega), ko q hq]⟩
set_option maxHeartbeats 4000000 in
set_option maxRecDepth 100000 in
theorem c_Bd_init (l : Launch) {D : va_G} {A : Nat → ClassId} {H0 : Heap} {a z : Nat} (hzz : H0.size = z) (h : va_at D x_cl (a, .inr (7, [.null, .null, .null, .null, .null, .null, .int 0])) H0) : Met l y_Bd_init w_Bd_init { frames := 2, cells := 12, slots := 791, locals := 33 } (x_Pc D A [.ref a] H0) (x_Q none (fun H1 => (∀ H2 : Heap, z + 29 ≤ H2.size → (∀ q : Nat, q < z + 12 → H2[q]? = H1[q]?) → g_D D A a z ([], [], [], [], [], [], 0) H2) ∧ H1.size = z + 12 ∧ ∀ q : Nat, q < z → q ≠ a → H1[q]? = H0[q]?)) 12 791 (fun q : Nat => q = a ∨ z ≤ q) := by
  refine Met.ofW (cc := prog_1_method_1_code) (maxL := 1) (ret := none) (by decide) rfl ?_
  intro p e s m args below meth c s₁ B hml hv
  obtain ⟨rfl, hH, hK, hN⟩ := hv
  obtain ⟨hx, hb, hr, htb, hown, hlocks⟩ := x_start (wd := Cond.code y_Bd_init prog_1_method_1_code 1 none) B
  have hin : meth.name = "<init>" := (name_of_methodNamed B.named B.method).1
  have hl := lv_entry ([.ref a]) (n := 1) (Nat.le_of_ble_eq_true rfl)
  rw [lg_entry_eq]
  generalize (lg_sl ([.ref a]) ++ List.replicate (1 - (lg_sl ([.ref a])).length) Slot.unset).toArray = ls at hl ⊢
  have hl : lv_has ls 1 [(0, .ref a)] := hl
  rw [hH]
  have hL : ∀ q ∈ ([] : List Loc), (fun q : Nat => q = a ∨ z ≤ q) q.base := fun q hq => by cases hq
  have has : a < z := by rw [← hzz]; exact h.lt
  refine lv_aload_n hx hb d_Bd_init_0 rfl (lv_at hl 0 rfl) ?_
  refine W.objInit hx hb hown (htb _ mw_25) (htb _ mw_26) (show (Cond.code objectInit ⟨#[0xb1]⟩ 1 none).before _ s = true from htb _ mw_27) rfl (by rw [hml]; exact hl.1) rfl d_Bd_init_1 (Nat.le_of_ble_eq_true rfl) (Nat.le_of_ble_eq_true rfl) ?_
  refine W.eq (g2 := F0 m 4 ls []) rfl ?_
  have zz0 : H0.size = z := hzz
  refine lv_aload_n hx hb d_Bd_init_4 rfl (lv_at hl 0 rfl) ?_
  refine x_new (ci := 4) (fs := [.null, .int 0]) (T := T_Tp) (N := 2) hx hb htb u_Tp t_Tp t_Tp_ok hown (htb _ mw_28) (htb _ mw_29) (htb _ mw_2) hK rfl df_Tp (Nat.le_of_ble_eq_true rfl) (Nat.le_of_ble_eq_true rfl) d_Bd_init_5 (fun Ha0 k0 k0z k0o => ?_)
  rw [zz0]
  have kk0 := k0
  rw [zz0] at kk0
  have an0 : a < H0.size := by rw [zz0]; omega
  have h := h.kept (k0o a an0)
  refine lv_dup hx hb d_Bd_init_8 rfl ?_
  refine x_call (F := fun q : Nat => q = a ∨ z ≤ q) (va_runIN (As := []) (rest := [.ref z, .ref a]) ⟨hx, hb, hml, hown, htb⟩ (c_Tp_init l kk0) ⟨va_cnB 0 htb (x_goodT mw_32) rfl rfl rfl (hN.1 _ nf_30) (htb _ mw_2) (by decide +kernel) ⟨Nat.le_of_ble_eq_true rfl, Nat.le_of_ble_eq_true rfl⟩, rfl, htb _ mw_31⟩ (x_preS hK hN) rfl rfl hl.1 rfl (lv_room (Nat.le_of_ble_eq_true rfl)) d_Bd_init_9 ⟨Nat.le_of_ble_eq_true rfl, Nat.le_of_ble_eq_true rfl⟩) hL (fun q hq => Or.inr (hq.elim (fun e => by rw [e]; omega) (fun e => x_le (by rw [k0z, zz0]; omega) e))) (fun Hb0 locs hP hL => ?_)
  refine W.eq (g2 := F0 m 12 ls [.ref z, .ref a]) rfl ?_
  obtain ⟨m0, mz0, mo0⟩ := hP
  rw [show Ha0.size = z + 1 by rw [k0z, zz0]] at m0
  have h := h.kept (mo0 a (by rw [k0z]; omega) (by omega))
  refine x_putF (F := fun q : Nat => q = a ∨ z ≤ q) (ci := 7) (v := .ref z) (ty := .object "BreakingDisk$Tape") (T := T_Bd) hx hb htb u_Bd t_Bd t_Bd_ok n_Bd hown hK h hL (Or.inl rfl) rfl 0 (by decide) (htb _ mw_85) (fun _ h9 => h9) rfl hin rfl (by decide +kernel) rfl rfl (Nat.le_of_ble_eq_true rfl) d_Bd_init_12 (fun Hc0 locs h0a hc1 hL => ?_)
  have h0a : va_at D x_cl (a, .inr (7, [.ref z, .null, .null, .null, .null, .null, .int 0])) Hc0 := h0a
  have m0 := m0.kept (hc1.2 _ (by omega)) (hc1.2 _ (by omega))
  have st0 := x_stage k0z k0o mz0 (fun q h1 h2 => mo0 q h1 (fun e => h2 (by rw [zz0]; exact e))) hc1
  have zz1 : Hc0.size = z + 2 := by rw [st0.1, zz0]
  clear mz0 k0z an0
  refine lv_aload_n hx hb d_Bd_init_15 rfl (lv_at hl 0 rfl) ?_
  refine x_new (ci := 5) (fs := [.null, .int 0]) (T := T_Fi) (N := 2) hx hb htb u_Fi t_Fi t_Fi_ok hown (htb _ mw_43) (htb _ mw_44) (htb _ mw_3) hK rfl df_Fi (Nat.le_of_ble_eq_true rfl) (Nat.le_of_ble_eq_true rfl) d_Bd_init_16 (fun Ha1 k1 k1z k1o => ?_)
  rw [zz1]
  have kk1 := k1
  rw [zz1] at kk1
  have an1 : a < Hc0.size := by rw [zz1]; omega
  have h0a := h0a.kept (k1o a an1)
  refine lv_dup hx hb d_Bd_init_19 rfl ?_
  refine x_call (F := fun q : Nat => q = a ∨ z ≤ q) (va_runIN (As := []) (rest := [.ref (z + 2), .ref a]) ⟨hx, hb, hml, hown, htb⟩ (c_Fi_init l kk1) ⟨va_cnB 0 htb (x_goodT mw_47) rfl rfl rfl (hN.1 _ nf_45) (htb _ mw_3) (by decide +kernel) ⟨Nat.le_of_ble_eq_true rfl, Nat.le_of_ble_eq_true rfl⟩, rfl, htb _ mw_46⟩ (x_preS hK hN) rfl rfl hl.1 rfl (lv_room (Nat.le_of_ble_eq_true rfl)) d_Bd_init_20 ⟨Nat.le_of_ble_eq_true rfl, Nat.le_of_ble_eq_true rfl⟩) hL (fun q hq => Or.inr (hq.elim (fun e => by rw [e]; omega) (fun e => x_le (by rw [k1z, zz1]; omega) e))) (fun Hb1 locs hP hL => ?_)
  refine W.eq (g2 := F0 m 23 ls [.ref (z + 2), .ref a]) rfl ?_
  obtain ⟨m1, mz1, mo1⟩ := hP
  rw [show Ha1.size = z + 3 by rw [k1z, zz1]] at m1
  have h0a := h0a.kept (mo1 a (by rw [k1z]; omega) (by omega))
  refine x_putF (F := fun q : Nat => q = a ∨ z ≤ q) (ci := 7) (v := .ref (z + 2)) (ty := .object "BreakingDisk$Files") (T := T_Bd) hx hb htb u_Bd t_Bd t_Bd_ok n_Bd hown hK h0a hL (Or.inl rfl) rfl 1 (by decide) (htb _ mw_86) (fun _ h9 => h9) rfl hin rfl (by decide +kernel) rfl rfl (Nat.le_of_ble_eq_true rfl) d_Bd_init_23 (fun Hc1 locs h1a hc2 hL => ?_)
  have h1a : va_at D x_cl (a, .inr (7, [.ref z, .ref (z + 2), .null, .null, .null, .null, .int 0])) Hc1 := h1a
  have m1 := m1.kept (hc2.2 _ (by omega)) (hc2.2 _ (by omega))
  have st1 := x_stage k1z k1o mz1 (fun q h1 h2 => mo1 q h1 (fun e => h2 (by rw [zz1]; exact e))) hc2
  have zz2 : Hc1.size = z + 4 := by rw [st1.1, zz1]
  clear mz1 k1z an1
  refine lv_aload_n hx hb d_Bd_init_26 rfl (lv_at hl 0 rfl) ?_
  refine x_new (ci := 5) (fs := [.null, .int 0]) (T := T_Fi) (N := 2) hx hb htb u_Fi t_Fi t_Fi_ok hown (htb _ mw_43) (htb _ mw_44) (htb _ mw_3) hK rfl df_Fi (Nat.le_of_ble_eq_true rfl) (Nat.le_of_ble_eq_true rfl) d_Bd_init_27 (fun Ha2 k2 k2z k2o => ?_)
  rw [zz2]
  have kk2 := k2
  rw [zz2] at kk2
  have an2 : a < Hc1.size := by rw [zz2]; omega
  have h1a := h1a.kept (k2o a an2)
  refine lv_dup hx hb d_Bd_init_30 rfl ?_
  refine x_call (F := fun q : Nat => q = a ∨ z ≤ q) (va_runIN (As := []) (rest := [.ref (z + 4), .ref a]) ⟨hx, hb, hml, hown, htb⟩ (c_Fi_init l kk2) ⟨va_cnB 0 htb (x_goodT mw_47) rfl rfl rfl (hN.1 _ nf_45) (htb _ mw_3) (by decide +kernel) ⟨Nat.le_of_ble_eq_true rfl, Nat.le_of_ble_eq_true rfl⟩, rfl, htb _ mw_46⟩ (x_preS hK hN) rfl rfl hl.1 rfl (lv_room (Nat.le_of_ble_eq_true rfl)) d_Bd_init_31 ⟨Nat.le_of_ble_eq_true rfl, Nat.le_of_ble_eq_true rfl⟩) hL (fun q hq => Or.inr (hq.elim (fun e => by rw [e]; omega) (fun e => x_le (by rw [k2z, zz2]; omega) e))) (fun Hb2 locs hP hL => ?_)
  refine W.eq (g2 := F0 m 34 ls [.ref (z + 4), .ref a]) rfl ?_
  obtain ⟨m2, mz2, mo2⟩ := hP
  rw [show Ha2.size = z + 5 by rw [k2z, zz2]] at m2
  have h1a := h1a.kept (mo2 a (by rw [k2z]; omega) (by omega))
  refine x_putF (F := fun q : Nat => q = a ∨ z ≤ q) (ci := 7) (v := .ref (z + 4)) (ty := .object "BreakingDisk$Files") (T := T_Bd) hx hb htb u_Bd t_Bd t_Bd_ok n_Bd hown hK h1a hL (Or.inl rfl) rfl 2 (by decide) (htb _ mw_87) (fun _ h9 => h9) rfl hin rfl (by decide +kernel) rfl rfl (Nat.le_of_ble_eq_true rfl) d_Bd_init_34 (fun Hc2 locs h2a hc3 hL => ?_)
  have h2a : va_at D x_cl (a, .inr (7, [.ref z, .ref (z + 2), .ref (z + 4), .null, .null, .null, .int 0])) Hc2 := h2a
  have m2 := m2.kept (hc3.2 _ (by omega)) (hc3.2 _ (by omega))
  have st2 := x_stage k2z k2o mz2 (fun q h1 h2 => mo2 q h1 (fun e => h2 (by rw [zz2]; exact e))) hc3
  have zz3 : Hc2.size = z + 6 := by rw [st2.1, zz2]
  clear mz2 k2z an2
  refine lv_aload_n hx hb d_Bd_init_37 rfl (lv_at hl 0 rfl) ?_
  refine x_new (ci := 5) (fs := [.null, .int 0]) (T := T_Fi) (N := 2) hx hb htb u_Fi t_Fi t_Fi_ok hown (htb _ mw_43) (htb _ mw_44) (htb _ mw_3) hK rfl df_Fi (Nat.le_of_ble_eq_true rfl) (Nat.le_of_ble_eq_true rfl) d_Bd_init_38 (fun Ha3 k3 k3z k3o => ?_)
  rw [zz3]
  have kk3 := k3
  rw [zz3] at kk3
  have an3 : a < Hc2.size := by rw [zz3]; omega
  have h2a := h2a.kept (k3o a an3)
  refine lv_dup hx hb d_Bd_init_41 rfl ?_
  refine x_call (F := fun q : Nat => q = a ∨ z ≤ q) (va_runIN (As := []) (rest := [.ref (z + 6), .ref a]) ⟨hx, hb, hml, hown, htb⟩ (c_Fi_init l kk3) ⟨va_cnB 0 htb (x_goodT mw_47) rfl rfl rfl (hN.1 _ nf_45) (htb _ mw_3) (by decide +kernel) ⟨Nat.le_of_ble_eq_true rfl, Nat.le_of_ble_eq_true rfl⟩, rfl, htb _ mw_46⟩ (x_preS hK hN) rfl rfl hl.1 rfl (lv_room (Nat.le_of_ble_eq_true rfl)) d_Bd_init_42 ⟨Nat.le_of_ble_eq_true rfl, Nat.le_of_ble_eq_true rfl⟩) hL (fun q hq => Or.inr (hq.elim (fun e => by rw [e]; omega) (fun e => x_le (by rw [k3z, zz3]; omega) e))) (fun Hb3 locs hP hL => ?_)
  refine W.eq (g2 := F0 m 45 ls [.ref (z + 6), .ref a]) rfl ?_
  obtain ⟨m3, mz3, mo3⟩ := hP
  rw [show Ha3.size = z + 7 by rw [k3z, zz3]] at m3
  have h2a := h2a.kept (mo3 a (by rw [k3z]; omega) (by omega))
  refine x_putF (F := fun q : Nat => q = a ∨ z ≤ q) (ci := 7) (v := .ref (z + 6)) (ty := .object "BreakingDisk$Files") (T := T_Bd) hx hb htb u_Bd t_Bd t_Bd_ok n_Bd hown hK h2a hL (Or.inl rfl) rfl 3 (by decide) (htb _ mw_88) (fun _ h9 => h9) rfl hin rfl (by decide +kernel) rfl rfl (Nat.le_of_ble_eq_true rfl) d_Bd_init_45 (fun Hc3 locs h3a hc4 hL => ?_)
  have h3a : va_at D x_cl (a, .inr (7, [.ref z, .ref (z + 2), .ref (z + 4), .ref (z + 6), .null, .null, .int 0])) Hc3 := h3a
  have m3 := m3.kept (hc4.2 _ (by omega)) (hc4.2 _ (by omega))
  have st3 := x_stage k3z k3o mz3 (fun q h1 h2 => mo3 q h1 (fun e => h2 (by rw [zz3]; exact e))) hc4
  have zz4 : Hc3.size = z + 8 := by rw [st3.1, zz3]
  clear mz3 k3z an3
  refine lv_aload_n hx hb d_Bd_init_48 rfl (lv_at hl 0 rfl) ?_
  refine x_new (ci := 6) (fs := [.null, .int 0]) (T := T_Jo) (N := 2) hx hb htb u_Jo t_Jo t_Jo_ok hown (htb _ mw_59) (htb _ mw_60) (htb _ mw_4) hK rfl df_Jo (Nat.le_of_ble_eq_true rfl) (Nat.le_of_ble_eq_true rfl) d_Bd_init_49 (fun Ha4 k4 k4z k4o => ?_)
  rw [zz4]
  have kk4 := k4
  rw [zz4] at kk4
  have an4 : a < Hc3.size := by rw [zz4]; omega
  have h3a := h3a.kept (k4o a an4)
  refine lv_dup hx hb d_Bd_init_52 rfl ?_
  refine x_call (F := fun q : Nat => q = a ∨ z ≤ q) (va_runIN (As := []) (rest := [.ref (z + 8), .ref a]) ⟨hx, hb, hml, hown, htb⟩ (c_Jo_init l kk4) ⟨va_cnB 0 htb (x_goodT mw_63) rfl rfl rfl (hN.1 _ nf_61) (htb _ mw_4) (by decide +kernel) ⟨Nat.le_of_ble_eq_true rfl, Nat.le_of_ble_eq_true rfl⟩, rfl, htb _ mw_62⟩ (x_preS hK hN) rfl rfl hl.1 rfl (lv_room (Nat.le_of_ble_eq_true rfl)) d_Bd_init_53 ⟨Nat.le_of_ble_eq_true rfl, Nat.le_of_ble_eq_true rfl⟩) hL (fun q hq => Or.inr (hq.elim (fun e => by rw [e]; omega) (fun e => x_le (by rw [k4z, zz4]; omega) e))) (fun Hb4 locs hP hL => ?_)
  refine W.eq (g2 := F0 m 56 ls [.ref (z + 8), .ref a]) rfl ?_
  obtain ⟨m4, mz4, mo4⟩ := hP
  rw [show Ha4.size = z + 9 by rw [k4z, zz4]] at m4
  have h3a := h3a.kept (mo4 a (by rw [k4z]; omega) (by omega))
  refine x_putF (F := fun q : Nat => q = a ∨ z ≤ q) (ci := 7) (v := .ref (z + 8)) (ty := .object "BreakingDisk$Journal") (T := T_Bd) hx hb htb u_Bd t_Bd t_Bd_ok n_Bd hown hK h3a hL (Or.inl rfl) rfl 4 (by decide) (htb _ mw_89) (fun _ h9 => h9) rfl hin rfl (by decide +kernel) rfl rfl (Nat.le_of_ble_eq_true rfl) d_Bd_init_56 (fun Hc4 locs h4a hc5 hL => ?_)
  have h4a : va_at D x_cl (a, .inr (7, [.ref z, .ref (z + 2), .ref (z + 4), .ref (z + 6), .ref (z + 8), .null, .int 0])) Hc4 := h4a
  have m4 := m4.kept (hc5.2 _ (by omega)) (hc5.2 _ (by omega))
  have st4 := x_stage k4z k4o mz4 (fun q h1 h2 => mo4 q h1 (fun e => h2 (by rw [zz4]; exact e))) hc5
  have zz5 : Hc4.size = z + 10 := by rw [st4.1, zz4]
  clear mz4 k4z an4
  refine lv_aload_n hx hb d_Bd_init_59 rfl (lv_at hl 0 rfl) ?_
  refine x_new (ci := 0) (fs := [.null]) (T := T_By) (N := 1) hx hb htb u_By t_By t_By_ok hown (htb _ mw_75) (htb _ mw_76) (htb _ mw_5) hK rfl df_By (Nat.le_of_ble_eq_true rfl) (Nat.le_of_ble_eq_true rfl) d_Bd_init_60 (fun Hd k5 k5z k5o => ?_)
  rw [zz5]
  rw [zz5] at k5 k5z k5o
  have h4a := h4a.kept (k5o a (by omega))
  refine lv_dup hx hb d_Bd_init_63 rfl ?_
  refine lv_iconst (v := 0) hx hb d_Bd_init_64 (by decide) ?_
  refine x_newa (atype := .byte) hx hb (htb _ mw_42) (ty := .byte) rfl hK 0 rfl (fun C q => by cases q) (N' := 0) (a0 := (0, .inl (fun _ => 0))) rfl (by decide) (by decide) (by decide) (Nat.le_of_ble_eq_true rfl) (Nat.le_of_ble_eq_true rfl) d_Bd_init_65 (fun He k6 k6z k6o => ?_)
  rw [k5z]
  rw [k5z] at k6 k6z k6o
  have h4a := h4a.kept (k6o a (by omega))
  have k5 := k5.kept (k6o (z + 10) (by omega))
  refine x_call (F := fun q : Nat => q = a ∨ z ≤ q) (va_runI (As := [.ref (z + 10 + 1)]) (rest := [.ref (z + 10), .ref a]) ⟨hx, hb, hml, hown, htb⟩ (c_By_init l (r := z + 10 + 1) k5) (x_cI 1 htb mw_77 mw_5 mw_79 mw_78 rfl rfl rfl (by decide +kernel) ⟨Nat.le_of_ble_eq_true rfl, Nat.le_of_ble_eq_true rfl⟩) (x_preS hK hN) rfl rfl hl.1 rfl (lv_room (Nat.le_of_ble_eq_true rfl)) d_Bd_init_67 ⟨Nat.le_of_ble_eq_true rfl, Nat.le_of_ble_eq_true rfl⟩) hL (fun q hq => Or.inr (by rw [hq]; omega)) (fun Hf locs hP hL => ?_)
  refine W.eq (g2 := F0 m 70 ls [.ref (z + 10), .ref a]) rfl ?_
  obtain ⟨k7, hb7⟩ := hP
  have h4a := hb7.at h4a (by omega)
  have k6 := hb7.at k6 (by omega)
  refine x_put (F := fun q : Nat => q = a ∨ z ≤ q) (ci := 7) (v := .ref (z + 10)) (ty := .object "BreakingDisk$Bytes") (T := T_Bd) hx hb htb u_Bd t_Bd t_Bd_ok n_Bd hown hK h4a hL (Or.inl rfl) rfl 5 (by decide) (htb _ mw_90) (fun _ h9 => h9) rfl (by decide +kernel) rfl rfl (Nat.le_of_ble_eq_true rfl) d_Bd_init_70 (fun Hg locs h8a hc6 hL => ?_)
  have h8a : va_at D x_cl (a, .inr (7, [.ref z, .ref (z + 2), .ref (z + 4), .ref (z + 6), .ref (z + 8), .ref (z + 10), .int 0])) Hg := h8a
  have k6 := hc6.at k6 (by omega)
  have k7 := hc6.at k7 (by omega)
  refine lv_aload_n hx hb d_Bd_init_73 rfl (lv_at hl 0 rfl) ?_
  refine lv_iconst (v := 0) hx hb d_Bd_init_74 (by decide) ?_
  refine x_put (F := fun q : Nat => q = a ∨ z ≤ q) (ci := 7) (v := .int 0) (ty := .int) (T := T_Bd) hx hb htb u_Bd t_Bd t_Bd_ok n_Bd hown hK h8a hL (Or.inl rfl) rfl 6 (by decide) (htb _ mw_91) (fun _ h9 => h9) rfl (by decide +kernel) rfl rfl (Nat.le_of_ble_eq_true rfl) d_Bd_init_75 (fun Hh locs h9a hc7 hL => ?_)
  have h9a : va_at D x_cl (a, .inr (7, [.ref z, .ref (z + 2), .ref (z + 4), .ref (z + 6), .ref (z + 8), .ref (z + 10), .int 0])) Hh := h9a
  have k6 := hc7.at k6 (by omega)
  have k7 := hc7.at k7 (by omega)
  have hzh : Hh.size = z + 12 := by rw [hc7.1, hc6.1, hb7.1, k6z]
  have cc4 : ∀ q : Nat, q < z + 10 → q ≠ a → Hh[q]? = Hc4[q]? := fun q hq hqa => by rw [hc7.2 q hqa, hc6.2 q hqa, hb7.2 q (by omega), k6o q (by omega), k5o q hq]
  have cc3 : ∀ q : Nat, q < z + 8 → q ≠ a → Hh[q]? = Hc3[q]? := fun q hq hqa => (cc4 q (by omega) hqa).trans (st4.2 q (by rw [zz4]; omega) hqa)
  have cc2 : ∀ q : Nat, q < z + 6 → q ≠ a → Hh[q]? = Hc2[q]? := fun q hq hqa => (cc3 q (by omega) hqa).trans (st3.2 q (by rw [zz3]; omega) hqa)
  have cc1 : ∀ q : Nat, q < z + 4 → q ≠ a → Hh[q]? = Hc1[q]? := fun q hq hqa => (cc2 q (by omega) hqa).trans (st2.2 q (by rw [zz2]; omega) hqa)
  have cc0 : ∀ q : Nat, q < z + 2 → q ≠ a → Hh[q]? = Hc0[q]? := fun q hq hqa => (cc1 q (by omega) hqa).trans (st1.2 q (by rw [zz1]; omega) hqa)
  have m0 := m0.kept (cc0 _ (by omega) (by omega)) (cc0 _ (by omega) (by omega))
  have m1 := m1.kept (cc1 _ (by omega) (by omega)) (cc1 _ (by omega) (by omega))
  have m2 := m2.kept (cc2 _ (by omega) (by omega)) (cc2 _ (by omega) (by omega))
  have m3 := m3.kept (cc3 _ (by omega) (by omega)) (cc3 _ (by omega) (by omega))
  have m4 := m4.kept (cc4 _ (by omega) (by omega)) (cc4 _ (by omega) (by omega))
  have hM10 : ¬ g_Mx a z (z + 10) := fun q => q.elim (fun e => by omega) (fun e => e.elim (fun e => by omega) (fun e => by omega))
  have hM11 : ¬ g_Mx a z (z + 10 + 1) := fun q => q.elim (fun e => by omega) (fun e => e.elim (fun e => by omega) (fun e => by omega))
  exact x_vret hx hb hr hlocks ⟨fun H2 hz2 hq2 => ⟨z + 10, [], [], [], [], h9a.kept (hq2 _ (by omega)), m0.kept (hq2 _ (by omega)) (hq2 _ (by omega)), ⟨z + 10 + 1, k7.kept (hq2 _ (by omega)), k6.kept (hq2 _ (by omega)), hM10, hM11, (fun u hu => by cases hu), Nat.zero_le _⟩, ⟨m1.kept (hq2 _ (by omega)) (hq2 _ (by omega)), g_fs.nil⟩, ⟨m2.kept (hq2 _ (by omega)) (hq2 _ (by omega)), g_fs.nil⟩, ⟨m3.kept (hq2 _ (by omega)) (hq2 _ (by omega)), g_fs.nil⟩, ⟨m4.kept (hq2 _ (by omega)) (hq2 _ (by omega)), g_os.nil⟩, has, hz2⟩, hzh, fun q hq hqa => (cc0 q (by omega) hqa).trans (st0.2 q (by rw [zz0]; exact hq) hqa)⟩ hL (Nat.le_refl _) (Nat.le_refl _) d_Bd_init_78
