/-! THE DISK: how its parts change; its methods that answer -/
theorem g_M.in {P : Nat → Prop} {a z : Nat} {i : Nat} (h : i < 10) (hP : ∀ q, g_M a z q → P q := by first | exact fun _ h => h | exact fun _ h => h.elim Or.inl (fun h => Or.inr (Or.inl h))) : P (z + i) := hP _ (Or.inr ⟨by omega, by omega⟩)
theorem g_D.lt {D : va_G} {A : Nat → ClassId} {a z : Nat} {S : g_S} {H : Heap} (h : g_D D A a z S H) : a < z ∧ z + 29 ≤ H.size := by
  obtain ⟨pa, as, bs, cs, ds, -, -, -, -, -, -, -, h1, h2⟩ := h
  exact ⟨h1, h2⟩
theorem g_D.new {D : va_G} {A : Nat → ClassId} {a z : Nat} {S : g_S} {H : Heap} (h : g_D D A a z S H) : ∀ q, H.size ≤ q → ¬ g_Mx a z q := fun q hq hM => by
  have := h.lt
  rcases hM with e | e | e <;> omega
theorem g_D.ext {D : va_G} {A : Nat → ClassId} {a z : Nat} {S : g_S} {H H1 : Heap} (h : g_D D A a z S H) (hz : H.size ≤ H1.size) (hq : ∀ q : Nat, q < H.size → H1[q]? = H[q]?) : g_D D A a z S H1 := by
  obtain ⟨pa, as, bs, cs, ds, h1, h2, h3, ⟨h4, h4s⟩, ⟨h5, h5s⟩, ⟨h6, h6s⟩, ⟨h7, h7s⟩, h8, h9⟩ := h
  have hk : g_K (g_M a z) H H1 := ⟨hz, fun q h _ => hq q h⟩
  exact ⟨pa, as, bs, cs, ds, h1.kept (hq _ (by omega)), h2.kept (hq _ (by omega)) (hq _ (by omega)), h3.kept hk, ⟨h4.kept (hq _ (by omega)) (hq _ (by omega)), h4s.kept hk⟩, ⟨h5.kept (hq _ (by omega)) (hq _ (by omega)), h5s.kept hk⟩, ⟨h6.kept (hq _ (by omega)) (hq _ (by omega)), h6s.kept hk⟩, ⟨h7.kept (hq _ (by omega)) (hq _ (by omega)), h7s.kept hk⟩, h8, Nat.le_trans h9 hz⟩
theorem g_D.tape {D : va_G} {A : Nat → ClassId} {a z : Nat} {S : g_S} {H H1 : Heap} (h : g_D D A a z S H) (hb : x_but2 (z) (z + 1) H H1) {v : List Nat} (n : g_tp D A z (z + 1) v H1) : g_D D A a z (v, S.2.1, S.2.2.1, S.2.2.2.1, S.2.2.2.2.1, S.2.2.2.2.2.1, S.2.2.2.2.2.2) H1 := by
  obtain ⟨pa, as, bs, cs, ds, h1, h2, h3, ⟨h4, h4s⟩, ⟨h5, h5s⟩, ⟨h6, h6s⟩, ⟨h7, h7s⟩, h8, h9⟩ := h
  have hq := hb.2
  have hk : g_K (g_M a z) H H1 := hb.K (g_M.in (i := 0) (by decide)) (g_M.in (by decide))
  exact ⟨pa, as, bs, cs, ds, h1.kept (hq _ (by omega) (by omega)), n, h3.kept hk, ⟨h4.kept (hq _ (by omega) (by omega)) (hq _ (by omega) (by omega)), h4s.kept hk⟩, ⟨h5.kept (hq _ (by omega) (by omega)) (hq _ (by omega) (by omega)), h5s.kept hk⟩, ⟨h6.kept (hq _ (by omega) (by omega)) (hq _ (by omega) (by omega)), h6s.kept hk⟩, ⟨h7.kept (hq _ (by omega) (by omega)) (hq _ (by omega) (by omega)), h7s.kept hk⟩, h8, by rw [hb.1]; exact h9⟩
theorem g_D.now {D : va_G} {A : Nat → ClassId} {a z : Nat} {S : g_S} {H H1 : Heap} (h : g_D D A a z S H) (hb : x_but2 (z + 2) (z + 3) H H1) {v : List g_F} {xs : List Nat} (n : g_fr D A 5 1 60 (z + 2) (z + 3) xs H1) (ns : g_fs D A (g_Mx a z) xs v H1) : g_D D A a z (S.1, S.2.1, v, S.2.2.2.1, S.2.2.2.2.1, S.2.2.2.2.2.1, S.2.2.2.2.2.2) H1 := by
  obtain ⟨pa, as, bs, cs, ds, h1, h2, h3, ⟨h4, h4s⟩, ⟨h5, h5s⟩, ⟨h6, h6s⟩, ⟨h7, h7s⟩, h8, h9⟩ := h
  have hq := hb.2
  have hk : g_K (g_M a z) H H1 := hb.K (g_M.in (i := 2) (by decide)) (g_M.in (by decide))
  exact ⟨pa, xs, bs, cs, ds, h1.kept (hq _ (by omega) (by omega)), h2.kept (hq _ (by omega) (by omega)) (hq _ (by omega) (by omega)), h3.kept hk, ⟨n, ns⟩, ⟨h5.kept (hq _ (by omega) (by omega)) (hq _ (by omega) (by omega)), h5s.kept hk⟩, ⟨h6.kept (hq _ (by omega) (by omega)) (hq _ (by omega) (by omega)), h6s.kept hk⟩, ⟨h7.kept (hq _ (by omega) (by omega)) (hq _ (by omega) (by omega)), h7s.kept hk⟩, h8, by rw [hb.1]; exact h9⟩
theorem g_D.kept {D : va_G} {A : Nat → ClassId} {a z : Nat} {S : g_S} {H H1 : Heap} (h : g_D D A a z S H) (hb : x_but2 (z + 4) (z + 5) H H1) {v : List g_F} {xs : List Nat} (n : g_fr D A 5 1 60 (z + 4) (z + 5) xs H1) (ns : g_fs D A (g_Mx a z) xs v H1) : g_D D A a z (S.1, S.2.1, S.2.2.1, v, S.2.2.2.2.1, S.2.2.2.2.2.1, S.2.2.2.2.2.2) H1 := by
  obtain ⟨pa, as, bs, cs, ds, h1, h2, h3, ⟨h4, h4s⟩, ⟨h5, h5s⟩, ⟨h6, h6s⟩, ⟨h7, h7s⟩, h8, h9⟩ := h
  have hq := hb.2
  have hk : g_K (g_M a z) H H1 := hb.K (g_M.in (i := 4) (by decide)) (g_M.in (by decide))
  exact ⟨pa, as, xs, cs, ds, h1.kept (hq _ (by omega) (by omega)), h2.kept (hq _ (by omega) (by omega)) (hq _ (by omega) (by omega)), h3.kept hk, ⟨h4.kept (hq _ (by omega) (by omega)) (hq _ (by omega) (by omega)), h4s.kept hk⟩, ⟨n, ns⟩, ⟨h6.kept (hq _ (by omega) (by omega)) (hq _ (by omega) (by omega)), h6s.kept hk⟩, ⟨h7.kept (hq _ (by omega) (by omega)) (hq _ (by omega) (by omega)), h7s.kept hk⟩, h8, by rw [hb.1]; exact h9⟩
theorem g_D.told {D : va_G} {A : Nat → ClassId} {a z : Nat} {S : g_S} {H H1 : Heap} (h : g_D D A a z S H) (hb : x_but2 (z + 6) (z + 7) H H1) {v : List g_F} {xs : List Nat} (n : g_fr D A 5 1 60 (z + 6) (z + 7) xs H1) (ns : g_fs D A (g_Mx a z) xs v H1) : g_D D A a z (S.1, S.2.1, S.2.2.1, S.2.2.2.1, v, S.2.2.2.2.2.1, S.2.2.2.2.2.2) H1 := by
  obtain ⟨pa, as, bs, cs, ds, h1, h2, h3, ⟨h4, h4s⟩, ⟨h5, h5s⟩, ⟨h6, h6s⟩, ⟨h7, h7s⟩, h8, h9⟩ := h
  have hq := hb.2
  have hk : g_K (g_M a z) H H1 := hb.K (g_M.in (i := 6) (by decide)) (g_M.in (by decide))
  exact ⟨pa, as, bs, xs, ds, h1.kept (hq _ (by omega) (by omega)), h2.kept (hq _ (by omega) (by omega)) (hq _ (by omega) (by omega)), h3.kept hk, ⟨h4.kept (hq _ (by omega) (by omega)) (hq _ (by omega) (by omega)), h4s.kept hk⟩, ⟨h5.kept (hq _ (by omega) (by omega)) (hq _ (by omega) (by omega)), h5s.kept hk⟩, ⟨n, ns⟩, ⟨h7.kept (hq _ (by omega) (by omega)) (hq _ (by omega) (by omega)), h7s.kept hk⟩, h8, by rw [hb.1]; exact h9⟩
theorem g_D.ops {D : va_G} {A : Nat → ClassId} {a z : Nat} {S : g_S} {H H1 : Heap} (h : g_D D A a z S H) (hb : x_but2 (z + 8) (z + 9) H H1) {v : List g_O} {xs : List Nat} (n : g_fr D A 6 2 200 (z + 8) (z + 9) xs H1) (ns : g_os D A (g_Mx a z) xs v H1) : g_D D A a z (S.1, S.2.1, S.2.2.1, S.2.2.2.1, S.2.2.2.2.1, v, S.2.2.2.2.2.2) H1 := by
  obtain ⟨pa, as, bs, cs, ds, h1, h2, h3, ⟨h4, h4s⟩, ⟨h5, h5s⟩, ⟨h6, h6s⟩, ⟨h7, h7s⟩, h8, h9⟩ := h
  have hq := hb.2
  have hk : g_K (g_M a z) H H1 := hb.K (g_M.in (i := 8) (by decide)) (g_M.in (by decide))
  exact ⟨pa, as, bs, cs, xs, h1.kept (hq _ (by omega) (by omega)), h2.kept (hq _ (by omega) (by omega)) (hq _ (by omega) (by omega)), h3.kept hk, ⟨h4.kept (hq _ (by omega) (by omega)) (hq _ (by omega) (by omega)), h4s.kept hk⟩, ⟨h5.kept (hq _ (by omega) (by omega)) (hq _ (by omega) (by omega)), h5s.kept hk⟩, ⟨h6.kept (hq _ (by omega) (by omega)) (hq _ (by omega) (by omega)), h6s.kept hk⟩, ⟨n, ns⟩, h8, by rw [hb.1]; exact h9⟩
theorem g_D.obj {D : va_G} {A : Nat → ClassId} {a z : Nat} {S : g_S} {H H1 : Heap} (h : g_D D A a z S H) (hb : x_but a H H1) {pa n : Nat} {ps : List Nat} (n1 : va_at D x_cl (a, .inr (7, [.ref z, .ref (z + 2), .ref (z + 4), .ref (z + 6), .ref (z + 8), .ref pa, .int (nI n)])) H1) (n2 : g_bs D A (g_Mx a z) pa ps H1) : g_D D A a z (S.1, ps, S.2.2.1, S.2.2.2.1, S.2.2.2.2.1, S.2.2.2.2.2.1, n) H1 := by
  obtain ⟨_, as, bs, cs, ds, h1, h2, h3, ⟨h4, h4s⟩, ⟨h5, h5s⟩, ⟨h6, h6s⟩, ⟨h7, h7s⟩, h8, h9⟩ := h
  have hq := hb.2
  have hk : g_K (g_M a z) H H1 := g_K.but hb (Or.inl rfl)
  exact ⟨pa, as, bs, cs, ds, n1, h2.kept (hq _ (by omega)) (hq _ (by omega)), n2, ⟨h4.kept (hq _ (by omega)) (hq _ (by omega)), h4s.kept hk⟩, ⟨h5.kept (hq _ (by omega)) (hq _ (by omega)), h5s.kept hk⟩, ⟨h6.kept (hq _ (by omega)) (hq _ (by omega)), h6s.kept hk⟩, ⟨h7.kept (hq _ (by omega)) (hq _ (by omega)), h7s.kept hk⟩, h8, by rw [hb.1]; exact h9⟩
def g_get (fs : List g_F) (n : g_N) : Option g_F := (g_find fs n).bind (fun j => fs[j]?)
def g_sort (x : Int32) : Prop := ¬ x < 0 ∧ x < 7
set_option maxHeartbeats 4000000 in
set_option maxRecDepth 100000 in
theorem c_Bd_isSort (l : Launch) {D : va_G} {A : Nat → ClassId} {H0 : Heap} {x : Int32} (h : g_sort x) : Met l y_Bd_isSort w_Bd_isSort { frames := 0, cells := 0, slots := 0, locals := 0 } (x_Pc D A [.int x] H0) (x_Q (some (.int 1)) (fun H1 => H1 = H0)) 0 0 (fun _ => False) := by
  refine Met.ofW (cc := prog_1_method_14_code) (maxL := 1) (ret := (some .boolean)) (by decide) rfl ?_
  intro p e s m args below meth c s₁ B hml hv
  obtain ⟨rfl, hH, hK, hN⟩ := hv
  obtain ⟨hx, hb, hr, htb, hown, hlocks⟩ := x_start (wd := Cond.code y_Bd_isSort prog_1_method_14_code 1 (some .boolean)) B
  have hl := lv_entry ([.int x]) (n := 1) (Nat.le_of_ble_eq_true rfl)
  rw [lg_entry_eq]
  generalize (lg_sl ([.int x]) ++ List.replicate (1 - (lg_sl ([.int x])).length) Slot.unset).toArray = ls at hl ⊢
  have hl : lv_has ls 1 [(0, .int x)] := hl
  rw [hH]
  refine lv_iload_n hx hb d_Bd_isSort_0 rfl (lv_at hl 0 rfl) ?_
  refine lv_if_lt (tgt := 14) hx hb d_Bd_isSort_1 (by decide) (fun c9 => absurd c9 h.1) (fun _ => ?_)
  refine lv_iload_n hx hb d_Bd_isSort_4 rfl (lv_at hl 0 rfl) ?_
  refine lv_bipush (v := 7) hx hb d_Bd_isSort_5 (by decide) ?_
  refine lv_icmp_ge (tgt := 14) hx hb d_Bd_isSort_7 (by decide) (fun c9 => absurd c9 (Int32.not_le.mpr h.2)) (fun _ => ?_)
  refine lv_iconst (v := 1) hx hb d_Bd_isSort_10 (by decide) ?_
  refine lv_goto (tgt := 15) hx hb d_Bd_isSort_11 (by decide) ?_
  exact x_zret hx hb hr hlocks rfl (by decide) rfl (fun q hq => by cases hq) (Nat.le_refl _) (Nat.le_refl _) d_Bd_isSort_15
set_option maxHeartbeats 4000000 in
set_option maxRecDepth 100000 in
theorem c_Bd_isSortN (l : Launch) {D : va_G} {A : Nat → ClassId} {H0 : Heap} {x : Int32} (h : ¬ g_sort x) : Met l y_Bd_isSort w_Bd_isSort { frames := 0, cells := 0, slots := 0, locals := 0 } (x_Pc D A [.int x] H0) (x_Q (some (.int 0)) (fun H1 => H1 = H0)) 0 0 (fun _ => False) := by
  refine Met.ofW (cc := prog_1_method_14_code) (maxL := 1) (ret := (some .boolean)) (by decide) rfl ?_
  intro p e s m args below meth c s₁ B hml hv
  obtain ⟨rfl, hH, hK, hN⟩ := hv
  obtain ⟨hx, hb, hr, htb, hown, hlocks⟩ := x_start (wd := Cond.code y_Bd_isSort prog_1_method_14_code 1 (some .boolean)) B
  have hl := lv_entry ([.int x]) (n := 1) (Nat.le_of_ble_eq_true rfl)
  rw [lg_entry_eq]
  generalize (lg_sl ([.int x]) ++ List.replicate (1 - (lg_sl ([.int x])).length) Slot.unset).toArray = ls at hl ⊢
  have hl : lv_has ls 1 [(0, .int x)] := hl
  rw [hH]
  refine lv_iload_n hx hb d_Bd_isSort_0 rfl (lv_at hl 0 rfl) ?_
  refine lv_if_lt (tgt := 14) hx hb d_Bd_isSort_1 (by decide) (fun c1 => ?_) (fun c1 => ?_)
  · refine lv_iconst (v := 0) hx hb d_Bd_isSort_14 (by decide) ?_
    exact x_zret hx hb hr hlocks rfl (by decide) rfl (fun q hq => by cases hq) (Nat.le_refl _) (Nat.le_refl _) d_Bd_isSort_15
  · refine lv_iload_n hx hb d_Bd_isSort_4 rfl (lv_at hl 0 rfl) ?_
    refine lv_bipush (v := 7) hx hb d_Bd_isSort_5 (by decide) ?_
    refine lv_icmp_ge (tgt := 14) hx hb d_Bd_isSort_7 (by decide) (fun _ => ?_) (fun c9 => absurd (Int32.not_lt.mp fun q => h ⟨c1, q⟩) c9)
    refine lv_iconst (v := 0) hx hb d_Bd_isSort_14 (by decide) ?_
    exact x_zret hx hb hr hlocks rfl (by decide) rfl (fun q hq => by cases hq) (Nat.le_refl _) (Nat.le_refl _) d_Bd_isSort_15
set_option maxHeartbeats 4000000 in
set_option maxRecDepth 100000 in
theorem c_Bd_nameOf (l : Launch) {D : va_G} {A : Nat → ClassId} {H0 : Heap} {a z : Nat} {S : g_S} (hd : g_D D A a z S H0) (x y : Int32) : Met l y_Bd_nameOf w_Bd_nameOf { frames := 2, cells := 1, slots := 3, locals := 35 } (x_Pc D A [.ref a, .int x, .int y] H0) (x_Q (some (.ref H0.size)) (fun H1 => g_nm D A (g_Mx a z) H0.size (x, y, S.2.1) H1 ∧ H1.size = H0.size + 1 ∧ ∀ q : Nat, q < H0.size → H1[q]? = H0[q]?)) 1 3 (fun q => H0.size ≤ q) := by
  refine Met.ofW (cc := prog_1_method_18_code) (maxL := 3) (ret := (some (.object "BreakingDisk$Name"))) (by decide) rfl ?_
  intro p e s m args below meth c s₁ B hml hv
  obtain ⟨rfl, hH, hK, hN⟩ := hv
  obtain ⟨hx, hb, hr, htb, hown, hlocks⟩ := x_start (wd := Cond.code y_Bd_nameOf prog_1_method_18_code 3 (some (.object "BreakingDisk$Name"))) B
  have hl := lv_entry ([.ref a, .int x, .int y]) (n := 3) (Nat.le_of_ble_eq_true rfl)
  rw [lg_entry_eq]
  generalize (lg_sl ([.ref a, .int x, .int y]) ++ List.replicate (3 - (lg_sl ([.ref a, .int x, .int y])).length) Slot.unset).toArray = ls at hl ⊢
  have hl : lv_has ls 3 [(0, .ref a), (1, .int x), (2, .int y)] := hl
  rw [hH]
  obtain ⟨pa, as, bs, cs, ds, h1, h2, h3, ⟨h4, h4s⟩, ⟨h5, h5s⟩, ⟨h6, h6s⟩, ⟨h7, h7s⟩, h8, h9⟩ := id hd
  have hL : ∀ q ∈ ([] : List Loc), (fun q : Nat => H0.size ≤ q) q.base := fun q hq => by cases hq
  refine x_new (ci := 1) (fs := [.int 0, .int 0, .null]) (T := T_Nm) (N := 3) hx hb htb u_Nm t_Nm t_Nm_ok hown (htb _ mw_135) (htb _ mw_136) (htb _ mw_15) hK rfl df_Nm (Nat.le_of_ble_eq_true rfl) (Nat.le_of_ble_eq_true rfl) d_Bd_nameOf_0 (fun H1 k1 k1z k1o => ?_)
  have q1 := h1.kept (k1o a (by omega))
  refine lv_dup hx hb d_Bd_nameOf_3 rfl ?_
  refine lv_iload_n hx hb d_Bd_nameOf_4 rfl (lv_at hl 1 rfl) ?_
  refine lv_iload_n hx hb d_Bd_nameOf_5 rfl (lv_at hl 2 rfl) ?_
  refine lv_aload_n hx hb d_Bd_nameOf_6 rfl (lv_at hl 0 rfl) ?_
  refine x_get (ci := 7) (T := T_Bd) hx hb htb u_Bd hown hK q1 rfl 5 (by decide) (htb _ mw_90) (fun _ h9 => h9) (v := .ref pa) rfl d_Bd_nameOf_7 ?_
  refine x_call (F := fun q : Nat => H0.size ≤ q) (va_runI (As := [.int x, .int y, .ref pa]) (rest := [.ref H0.size]) ⟨hx, hb, hml, hown, htb⟩ (c_Nm_init l k1) (x_cI 3 htb mw_137 mw_15 mw_139 mw_138 rfl rfl rfl (by decide +kernel) ⟨Nat.le_of_ble_eq_true rfl, Nat.le_of_ble_eq_true rfl⟩) (x_preS hK hN) rfl rfl hl.1 rfl (lv_room (Nat.le_of_ble_eq_true rfl)) d_Bd_nameOf_10 ⟨Nat.le_of_ble_eq_true rfl, Nat.le_of_ble_eq_true rfl⟩) hL (fun q hq => by rw [hq]; exact Nat.le_refl _) (fun H2 locs hP hL => ?_)
  refine W.eq (g2 := F0 m 13 ls [.ref H0.size]) rfl ?_
  obtain ⟨k3, hb3⟩ := hP
  have ho : ∀ q : Nat, q < H0.size → H2[q]? = H0[q]? := fun q hq => by rw [hb3.2 q (by omega), k1o q hq]
  exact x_aret hx hb hr (Or.inl ⟨_, rfl⟩) (Or.inr ⟨_, rfl⟩) hlocks ⟨⟨pa, k3, hd.new _ (Nat.le_refl _), h3.kept ⟨by rw [hb3.1]; omega, fun q hq _ => ho q hq⟩⟩, by rw [hb3.1, k1z], ho⟩ hL (Nat.le_refl _) (Nat.le_refl _) d_Bd_nameOf_13
set_option maxHeartbeats 4000000 in
set_option maxRecDepth 100000 in
theorem c_Bd_put (l : Launch) {D : va_G} {A : Nat → ClassId} {H0 : Heap} {a z : Nat} {S : g_S} (hd : g_D D A a z S H0) (v : Int64) {n : Nat} (hn : n ≤ 8) (hr2 : S.1.length + n ≤ 400) : Met l y_Bd_put w_Bd_put { frames := 1, cells := 0, slots := 0, locals := 24 } (x_Pc D A [.ref a, .long v, .int (nI n)] H0) (x_Q (some (.int 1)) (fun H1 => g_D D A a z (S.1 ++ g_puts v n 0, S.2.1, S.2.2.1, S.2.2.2.1, S.2.2.2.2.1, S.2.2.2.2.2.1, S.2.2.2.2.2.2) H1 ∧ g_K (g_M a z) H0 H1)) 0 0 (x_fr (g_Mx a z) H0) := by
  refine Met.ofW (cc := prog_1_method_2_code) (maxL := 4) (ret := (some .boolean)) (by decide) rfl ?_
  intro p e s m args below meth c s₁ B hml hv
  obtain ⟨rfl, hH, hK, hN⟩ := hv
  obtain ⟨hx, hb, hr, htb, hown, hlocks⟩ := x_start (wd := Cond.code y_Bd_put prog_1_method_2_code 4 (some .boolean)) B
  have hl := lv_entry ([.ref a, .long v, .int (nI n)]) (n := 4) (Nat.le_of_ble_eq_true rfl)
  rw [lg_entry_eq]
  generalize (lg_sl ([.ref a, .long v, .int (nI n)]) ++ List.replicate (4 - (lg_sl ([.ref a, .long v, .int (nI n)])).length) Slot.unset).toArray = ls at hl ⊢
  have hl : lv_has ls 4 [(0, .ref a), (1, .long v), (3, .int (nI n))] := hl
  rw [hH]
  obtain ⟨pa, as, bs, cs, ds, h1, h2, h3, ⟨h4, h4s⟩, ⟨h5, h5s⟩, ⟨h6, h6s⟩, ⟨h7, h7s⟩, h8, h9⟩ := id hd
  have hL : ∀ q ∈ ([] : List Loc), x_fr (g_Mx a z) H0 q.base := fun q hq => by cases hq
  obtain ⟨f, t1, -⟩ := id h2
  refine lv_aload_n hx hb d_Bd_put_0 rfl (lv_at hl 0 rfl) ?_
  refine x_get (ci := 7) (T := T_Bd) hx hb htb u_Bd hown hK h1 rfl 0 (by decide) (htb _ mw_85) (fun _ h9 => h9) (v := .ref z) rfl d_Bd_put_1 ?_
  refine lv_lload_n hx hb d_Bd_put_4 rfl (lv_at hl 1 rfl) ?_
  refine lv_iload_n hx hb d_Bd_put_5 rfl (lv_at hl 2 rfl) ?_
  refine x_call (F := x_fr (g_Mx a z) H0) (va_runV (As := [.long v, .int (nI n)]) (rest := []) ⟨hx, hb, hml, hown, htb⟩ (c_Tp_append l h2 v hn hr2 (by omega)) (x_cV 2 htb mw_111 mw_2 mw_114 mw_112 mw_113 rfl rfl (by decide +kernel) ⟨Nat.le_of_ble_eq_true rfl, Nat.le_of_ble_eq_true rfl⟩) (x_preV hK hN t1 rfl) rfl rfl hl.1 rfl (lv_room (Nat.le_of_ble_eq_true rfl)) d_Bd_put_6 ⟨Nat.le_of_ble_eq_true rfl, Nat.le_of_ble_eq_true rfl⟩) hL (fun q hq => Or.inl (hq.elim (fun e => e ▸ g_M.in (i := 0) (by decide)) (fun e => e ▸ g_M.in (by decide)))) (fun H1 locs hP hL => ?_)
  refine W.eq (g2 := F0 m 9 ls [.int 1]) rfl ?_
  obtain ⟨q1, q2⟩ := hP
  exact x_zret hx hb hr hlocks rfl (by decide) ⟨hd.tape q2 q1, q2.K (g_M.in (i := 0) (by decide)) (g_M.in (by decide))⟩ hL (Nat.le_refl _) (Nat.le_refl _) d_Bd_put_9
set_option maxHeartbeats 4000000 in
set_option maxRecDepth 100000 in
theorem c_Bd_putN (l : Launch) {D : va_G} {A : Nat → ClassId} {H0 : Heap} {a z : Nat} {S : g_S} (hd : g_D D A a z S H0) (v : Int64) {x : Int32} (hbad : x < 0 ∨ 8 < x ∨ nI (400 - S.1.length) < x) : Met l y_Bd_put w_Bd_put { frames := 1, cells := 0, slots := 0, locals := 24 } (x_Pc D A [.ref a, .long v, .int x] H0) (x_Q (some (.int 0)) (fun H1 => H1 = H0)) 0 0 (fun _ => False) := by
  refine Met.ofW (cc := prog_1_method_2_code) (maxL := 4) (ret := (some .boolean)) (by decide) rfl ?_
  intro p e s m args below meth c s₁ B hml hv
  obtain ⟨rfl, hH, hK, hN⟩ := hv
  obtain ⟨hx, hb, hr, htb, hown, hlocks⟩ := x_start (wd := Cond.code y_Bd_put prog_1_method_2_code 4 (some .boolean)) B
  have hl := lv_entry ([.ref a, .long v, .int x]) (n := 4) (Nat.le_of_ble_eq_true rfl)
  rw [lg_entry_eq]
  generalize (lg_sl ([.ref a, .long v, .int x]) ++ List.replicate (4 - (lg_sl ([.ref a, .long v, .int x])).length) Slot.unset).toArray = ls at hl ⊢
  have hl : lv_has ls 4 [(0, .ref a), (1, .long v), (3, .int x)] := hl
  rw [hH]
  obtain ⟨pa, as, bs, cs, ds, h1, h2, h3, ⟨h4, h4s⟩, ⟨h5, h5s⟩, ⟨h6, h6s⟩, ⟨h7, h7s⟩, h8, h9⟩ := id hd
  obtain ⟨f, t1, -⟩ := id h2
  refine lv_aload_n hx hb d_Bd_put_0 rfl (lv_at hl 0 rfl) ?_
  refine x_get (ci := 7) (T := T_Bd) hx hb htb u_Bd hown hK h1 rfl 0 (by decide) (htb _ mw_85) (fun _ h9 => h9) (v := .ref z) rfl d_Bd_put_1 ?_
  refine lv_lload_n hx hb d_Bd_put_4 rfl (lv_at hl 1 rfl) ?_
  refine lv_iload_n hx hb d_Bd_put_5 rfl (lv_at hl 2 rfl) ?_
  refine x_callP (va_runV (As := [.long v, .int x]) (rest := []) ⟨hx, hb, hml, hown, htb⟩ (c_Tp_appendN l h2 v hbad) (x_cV 2 htb mw_111 mw_2 mw_114 mw_112 mw_113 rfl rfl (by decide +kernel) ⟨Nat.le_of_ble_eq_true rfl, Nat.le_of_ble_eq_true rfl⟩) (x_preV hK hN t1 rfl) rfl rfl hl.1 rfl (lv_room (Nat.le_of_ble_eq_true rfl)) d_Bd_put_6 ⟨Nat.le_of_ble_eq_true rfl, Nat.le_of_ble_eq_true rfl⟩) ?_
  refine W.eq (g2 := F0 m 9 ls [.int 0]) rfl ?_
  exact x_zret hx hb hr hlocks rfl (by decide) rfl (fun q hq => by cases hq) (Nat.le_refl _) (Nat.le_refl _) d_Bd_put_9
theorem g_get_some {fs : List g_F} {n : g_N} {j : Nat} {f : g_F} (h : g_find fs n = some j) (hf : fs[j]? = some f) : g_get fs n = some f := by
  unfold g_get
  rw [h]
  exact hf
theorem g_get_none {fs : List g_F} {n : g_N} (h : g_find fs n = none) : g_get fs n = none := by
  unfold g_get
  rw [h]
  rfl
def g_szv (o : Option g_F) : Int32 := match o with
  | some f => nI f.2.length
  | none => -1
def g_atv (o : Option g_F) (k : Int32) : Int32 := match o with
  | some f => g_at f.2 k
  | none => -1
set_option maxHeartbeats 4000000 in
set_option maxRecDepth 100000 in
theorem c_Bd_size (l : Launch) {D : va_G} {A : Nat → ClassId} {H0 : Heap} {a z : Nat} {S : g_S} (hd : g_D D A a z S H0) (x y : Int32) : Met l y_Bd_size w_Bd_size { frames := 4, cells := 1, slots := 3, locals := 88 } (x_Pc D A [.ref a, .int x, .int y] H0) (x_Q (some (.int (g_szv (g_get S.2.2.1 (x, y, S.2.1))))) (fun H1 => g_D D A a z S H1 ∧ g_K (g_M a z) H0 H1)) 1 3 (x_fr (g_Mx a z) H0) := by
  refine Met.ofW (cc := prog_1_method_9_code) (maxL := 4) (ret := (some .int)) (by decide) rfl ?_
  intro p e s m args below meth c s₁ B hml hv
  obtain ⟨rfl, hH, hK, hN⟩ := hv
  obtain ⟨hx, hb, hr, htb, hown, hlocks⟩ := x_start (wd := Cond.code y_Bd_size prog_1_method_9_code 4 (some .int)) B
  have hl := lv_entry ([.ref a, .int x, .int y]) (n := 4) (Nat.le_of_ble_eq_true rfl)
  rw [lg_entry_eq]
  generalize (lg_sl ([.ref a, .int x, .int y]) ++ List.replicate (4 - (lg_sl ([.ref a, .int x, .int y])).length) Slot.unset).toArray = ls at hl ⊢
  have hl : lv_has ls 4 [(0, .ref a), (1, .int x), (2, .int y)] := hl
  rw [hH]
  obtain ⟨pa, as, bs, cs, ds, h1, h2, h3, ⟨h4, h4s⟩, ⟨h5, h5s⟩, ⟨h6, h6s⟩, ⟨h7, h7s⟩, h8, h9⟩ := id hd
  have hL : ∀ q ∈ ([] : List Loc), x_fr (g_Mx a z) H0 q.base := fun q hq => by cases hq
  refine lv_aload_n hx hb d_Bd_size_0 rfl (lv_at hl 0 rfl) ?_
  refine x_get (ci := 7) (T := T_Bd) hx hb htb u_Bd hown hK h1 rfl 1 (by decide) (htb _ mw_86) (fun _ h9 => h9) (v := .ref (z + 2)) rfl d_Bd_size_1 ?_
  refine lv_aload_n hx hb d_Bd_size_4 rfl (lv_at hl 0 rfl) ?_
  refine lv_iload_n hx hb d_Bd_size_5 rfl (lv_at hl 1 rfl) ?_
  refine lv_iload_n hx hb d_Bd_size_6 rfl (lv_at hl 2 rfl) ?_
  refine x_call (F := x_fr (g_Mx a z) H0) (va_runV (As := [.int x, .int y]) (rest := [.ref (z + 2)]) ⟨hx, hb, hml, hown, htb⟩ (c_Bd_nameOf l hd x y) (x_cV 2 htb mw_131 mw_1 mw_134 mw_133 ms_0 rfl rfl (by decide +kernel) ⟨Nat.le_of_ble_eq_true rfl, Nat.le_of_ble_eq_true rfl⟩) (x_preV hK hN h1 rfl) rfl rfl hl.1 rfl (lv_room (Nat.le_of_ble_eq_true rfl)) d_Bd_size_7 ⟨Nat.le_of_ble_eq_true rfl, Nat.le_of_ble_eq_true rfl⟩) hL (fun q hq => Or.inr hq) (fun H1 locs hP hL => ?_)
  refine W.eq (g2 := F0 m 10 ls [.ref H0.size, .ref (z + 2)]) rfl ?_
  obtain ⟨k1, k1z, k1o⟩ := hP
  have hd1 := hd.ext (by omega) k1o
  have hk1 : g_K (g_M a z) H0 H1 := g_K.ext k1z k1o
  have h4 := h4.kept (k1o _ (by omega)) (k1o _ (by omega))
  have h4s := h4s.kept hk1
  obtain ⟨g, g1, -⟩ := id h4
  cases hfi : g_find S.2.2.1 (x, y, S.2.1) with
  | none =>
    refine x_callP (va_runV (As := [.ref H0.size]) (rest := []) ⟨hx, hb, hml, hown, htb⟩ (c_Fi_findN l h4 h4s k1 hfi) (x_cV 1 htb mw_154 mw_3 mw_157 mw_155 mw_156 rfl rfl (by decide +kernel) ⟨Nat.le_of_ble_eq_true rfl, Nat.le_of_ble_eq_true rfl⟩) (x_preV hK hN g1 rfl) rfl rfl hl.1 rfl (lv_room (Nat.le_of_ble_eq_true rfl)) d_Bd_size_10 ⟨Nat.le_of_ble_eq_true rfl, Nat.le_of_ble_eq_true rfl⟩) ?_
    refine W.eq (g2 := F0 m 13 ls [.null]) rfl ?_
    refine lv_astore_nN (lv' := [(3, .null), (0, .ref a), (1, .int x), (2, .int y)]) hx hb d_Bd_size_13 rfl hl (by decide) rfl (fun ls hl => ?_)
    refine lv_aload_nN hx hb d_Bd_size_14 rfl (lv_at hl 0 rfl) ?_
    refine lv_ifnonnullN hx hb d_Bd_size_15 ?_
    refine lv_iconst (v := (-1)) hx hb d_Bd_size_18 (by decide) ?_
    refine lv_goto (tgt := 29) hx hb d_Bd_size_19 (by decide) ?_
    exact x_iret hx hb hr hlocks (by rw [g_get_none hfi]; rfl) ⟨hd1, hk1⟩ hL (Nat.le_refl _) (Nat.le_refl _) d_Bd_size_29
  | some j =>
    have hj := g_find_lt hfi
    obtain ⟨f, hff⟩ := g_ex hj
    obtain ⟨fa, hfa⟩ := g_ex (as := as) (j := j) (by rw [h4s.1]; exact hj)
    obtain ⟨na, ca, f1, f2, f3, f4⟩ := h4s.2 j fa f hfa hff
    obtain ⟨cr, c1, -⟩ := id f4
    refine x_callP (va_runV (As := [.ref H0.size]) (rest := []) ⟨hx, hb, hml, hown, htb⟩ (c_Fi_find l h4 h4s k1 hfi hfa) (x_cV 1 htb mw_154 mw_3 mw_157 mw_155 mw_156 rfl rfl (by decide +kernel) ⟨Nat.le_of_ble_eq_true rfl, Nat.le_of_ble_eq_true rfl⟩) (x_preV hK hN g1 rfl) rfl rfl hl.1 rfl (lv_room (Nat.le_of_ble_eq_true rfl)) d_Bd_size_10 ⟨Nat.le_of_ble_eq_true rfl, Nat.le_of_ble_eq_true rfl⟩) ?_
    refine W.eq (g2 := F0 m 13 ls [.ref fa]) rfl ?_
    refine lv_astore_n (lv' := [(3, .ref fa), (0, .ref a), (1, .int x), (2, .int y)]) hx hb d_Bd_size_13 rfl hl (by decide) rfl (fun ls hl => ?_)
    refine lv_aload_n hx hb d_Bd_size_14 rfl (lv_at hl 0 rfl) ?_
    refine lv_ifnonnull (tgt := 22) hx hb d_Bd_size_15 (by decide) ?_
    refine lv_aload_n hx hb d_Bd_size_22 rfl (lv_at hl 0 rfl) ?_
    refine x_getN (ci := 2) (T := T_Sf) hx hb htb u_Sf hown hK f1 rfl 1 (by decide) (va_Nw.use rfl (hN.1 _ nf_387)) (fun _ h9 => h9) (v := .ref ca) rfl d_Bd_size_23 ?_
    refine x_callP (va_runV (As := []) (rest := []) ⟨hx, hb, hml, hown, htb⟩ (c_By_length l f4) (x_cV 0 htb mw_177 mw_5 mw_180 mw_178 mw_179 rfl rfl (by decide +kernel) ⟨Nat.le_of_ble_eq_true rfl, Nat.le_of_ble_eq_true rfl⟩) (x_preV hK hN c1 rfl) rfl rfl hl.1 rfl (lv_room (Nat.le_of_ble_eq_true rfl)) d_Bd_size_26 ⟨Nat.le_of_ble_eq_true rfl, Nat.le_of_ble_eq_true rfl⟩) ?_
    refine W.eq (g2 := F0 m 29 ls [.int (nI f.2.length)]) rfl ?_
    exact x_iret hx hb hr hlocks (by rw [g_get_some hfi hff]; rfl) ⟨hd1, hk1⟩ hL (Nat.le_refl _) (Nat.le_refl _) d_Bd_size_29
set_option maxHeartbeats 4000000 in
set_option maxRecDepth 100000 in
theorem c_Bd_at (l : Launch) {D : va_G} {A : Nat → ClassId} {H0 : Heap} {a z : Nat} {S : g_S} (hd : g_D D A a z S H0) (x y kk : Int32) : Met l y_Bd_at w_Bd_at { frames := 4, cells := 1, slots := 3, locals := 88 } (x_Pc D A [.ref a, .int x, .int y, .int kk] H0) (x_Q (some (.int (g_atv (g_get S.2.2.1 (x, y, S.2.1)) kk))) (fun H1 => g_D D A a z S H1 ∧ g_K (g_M a z) H0 H1)) 1 3 (x_fr (g_Mx a z) H0) := by
  refine Met.ofW (cc := prog_1_method_10_code) (maxL := 5) (ret := (some .int)) (by decide) rfl ?_
  intro p e s m args below meth c s₁ B hml hv
  obtain ⟨rfl, hH, hK, hN⟩ := hv
  obtain ⟨hx, hb, hr, htb, hown, hlocks⟩ := x_start (wd := Cond.code y_Bd_at prog_1_method_10_code 5 (some .int)) B
  have hl := lv_entry ([.ref a, .int x, .int y, .int kk]) (n := 5) (Nat.le_of_ble_eq_true rfl)
  rw [lg_entry_eq]
  generalize (lg_sl ([.ref a, .int x, .int y, .int kk]) ++ List.replicate (5 - (lg_sl ([.ref a, .int x, .int y, .int kk])).length) Slot.unset).toArray = ls at hl ⊢
  have hl : lv_has ls 5 [(0, .ref a), (1, .int x), (2, .int y), (3, .int kk)] := hl
  rw [hH]
  obtain ⟨pa, as, bs, cs, ds, h1, h2, h3, ⟨h4, h4s⟩, ⟨h5, h5s⟩, ⟨h6, h6s⟩, ⟨h7, h7s⟩, h8, h9⟩ := id hd
  have hL : ∀ q ∈ ([] : List Loc), x_fr (g_Mx a z) H0 q.base := fun q hq => by cases hq
  refine lv_aload_n hx hb d_Bd_at_0 rfl (lv_at hl 0 rfl) ?_
  refine x_get (ci := 7) (T := T_Bd) hx hb htb u_Bd hown hK h1 rfl 1 (by decide) (htb _ mw_86) (fun _ h9 => h9) (v := .ref (z + 2)) rfl d_Bd_at_1 ?_
  refine lv_aload_n hx hb d_Bd_at_4 rfl (lv_at hl 0 rfl) ?_
  refine lv_iload_n hx hb d_Bd_at_5 rfl (lv_at hl 1 rfl) ?_
  refine lv_iload_n hx hb d_Bd_at_6 rfl (lv_at hl 2 rfl) ?_
  refine x_call (F := x_fr (g_Mx a z) H0) (va_runV (As := [.int x, .int y]) (rest := [.ref (z + 2)]) ⟨hx, hb, hml, hown, htb⟩ (c_Bd_nameOf l hd x y) (x_cV 2 htb mw_131 mw_1 mw_134 mw_133 ms_0 rfl rfl (by decide +kernel) ⟨Nat.le_of_ble_eq_true rfl, Nat.le_of_ble_eq_true rfl⟩) (x_preV hK hN h1 rfl) rfl rfl hl.1 rfl (lv_room (Nat.le_of_ble_eq_true rfl)) d_Bd_at_7 ⟨Nat.le_of_ble_eq_true rfl, Nat.le_of_ble_eq_true rfl⟩) hL (fun q hq => Or.inr hq) (fun H1 locs hP hL => ?_)
  refine W.eq (g2 := F0 m 10 ls [.ref H0.size, .ref (z + 2)]) rfl ?_
  obtain ⟨k1, k1z, k1o⟩ := hP
  have hd1 := hd.ext (by omega) k1o
  have hk1 : g_K (g_M a z) H0 H1 := g_K.ext k1z k1o
  have h4 := h4.kept (k1o _ (by omega)) (k1o _ (by omega))
  have h4s := h4s.kept hk1
  obtain ⟨g, g1, -⟩ := id h4
  cases hfi : g_find S.2.2.1 (x, y, S.2.1) with
  | none =>
    refine x_callP (va_runV (As := [.ref H0.size]) (rest := []) ⟨hx, hb, hml, hown, htb⟩ (c_Fi_findN l h4 h4s k1 hfi) (x_cV 1 htb mw_154 mw_3 mw_157 mw_155 mw_156 rfl rfl (by decide +kernel) ⟨Nat.le_of_ble_eq_true rfl, Nat.le_of_ble_eq_true rfl⟩) (x_preV hK hN g1 rfl) rfl rfl hl.1 rfl (lv_room (Nat.le_of_ble_eq_true rfl)) d_Bd_at_10 ⟨Nat.le_of_ble_eq_true rfl, Nat.le_of_ble_eq_true rfl⟩) ?_
    refine W.eq (g2 := F0 m 13 ls [.null]) rfl ?_
    refine lv_astoreN (lv' := [(4, .null), (0, .ref a), (1, .int x), (2, .int y), (3, .int kk)]) hx hb d_Bd_at_13 hl (by decide) rfl (fun ls hl => ?_)
    refine lv_aloadN hx hb d_Bd_at_15 (lv_at hl 0 rfl) ?_
    refine lv_ifnonnullN hx hb d_Bd_at_17 ?_
    refine lv_iconst (v := (-1)) hx hb d_Bd_at_20 (by decide) ?_
    refine lv_goto (tgt := 33) hx hb d_Bd_at_21 (by decide) ?_
    exact x_iret hx hb hr hlocks (by rw [g_get_none hfi]; rfl) ⟨hd1, hk1⟩ hL (Nat.le_refl _) (Nat.le_refl _) d_Bd_at_33
  | some j =>
    have hj := g_find_lt hfi
    obtain ⟨f, hff⟩ := g_ex hj
    obtain ⟨fa, hfa⟩ := g_ex (as := as) (j := j) (by rw [h4s.1]; exact hj)
    obtain ⟨na, ca, f1, f2, f3, f4⟩ := h4s.2 j fa f hfa hff
    obtain ⟨cr, c1, -⟩ := id f4
    refine x_callP (va_runV (As := [.ref H0.size]) (rest := []) ⟨hx, hb, hml, hown, htb⟩ (c_Fi_find l h4 h4s k1 hfi hfa) (x_cV 1 htb mw_154 mw_3 mw_157 mw_155 mw_156 rfl rfl (by decide +kernel) ⟨Nat.le_of_ble_eq_true rfl, Nat.le_of_ble_eq_true rfl⟩) (x_preV hK hN g1 rfl) rfl rfl hl.1 rfl (lv_room (Nat.le_of_ble_eq_true rfl)) d_Bd_at_10 ⟨Nat.le_of_ble_eq_true rfl, Nat.le_of_ble_eq_true rfl⟩) ?_
    refine W.eq (g2 := F0 m 13 ls [.ref fa]) rfl ?_
    refine lv_astore (lv' := [(4, .ref fa), (0, .ref a), (1, .int x), (2, .int y), (3, .int kk)]) hx hb d_Bd_at_13 hl (by decide) rfl (fun ls hl => ?_)
    refine lv_aload hx hb d_Bd_at_15 (lv_at hl 0 rfl) ?_
    refine lv_ifnonnull (tgt := 24) hx hb d_Bd_at_17 (by decide) ?_
    refine lv_aload hx hb d_Bd_at_24 (lv_at hl 0 rfl) ?_
    refine x_getN (ci := 2) (T := T_Sf) hx hb htb u_Sf hown hK f1 rfl 1 (by decide) (va_Nw.use rfl (hN.1 _ nf_387)) (fun _ h9 => h9) (v := .ref ca) rfl d_Bd_at_26 ?_
    refine lv_iload_n hx hb d_Bd_at_29 rfl (lv_at hl 4 rfl) ?_
    refine x_callP (va_runV (As := [.int kk]) (rest := []) ⟨hx, hb, hml, hown, htb⟩ (c_By_byteAt l f4 kk) (x_cV 1 htb mw_185 mw_5 mw_188 mw_186 mw_187 rfl rfl (by decide +kernel) ⟨Nat.le_of_ble_eq_true rfl, Nat.le_of_ble_eq_true rfl⟩) (x_preV hK hN c1 rfl) rfl rfl hl.1 rfl (lv_room (Nat.le_of_ble_eq_true rfl)) d_Bd_at_30 ⟨Nat.le_of_ble_eq_true rfl, Nat.le_of_ble_eq_true rfl⟩) ?_
    refine W.eq (g2 := F0 m 33 ls [.int (g_at f.2 kk)]) rfl ?_
    exact x_iret hx hb hr hlocks (by rw [g_get_some hfi hff]; rfl) ⟨hd1, hk1⟩ hL (Nat.le_refl _) (Nat.le_refl _) d_Bd_at_33
set_option maxHeartbeats 4000000 in
set_option maxRecDepth 100000 in
theorem c_Bd_list (l : Launch) {D : va_G} {A : Nat → ClassId} {H0 : Heap} {a z : Nat} {S : g_S} (hd : g_D D A a z S H0) {x : Int32} (hx0 : g_sort x) : Met l y_Bd_list w_Bd_list { frames := 4, cells := 0, slots := 0, locals := 90 } (x_Pc D A [.ref a, .int x] H0) (x_Q (some (.int (nI (g_lst S.2.2.1 x).length))) (fun H1 => g_D D A a z (S.1, S.2.1, S.2.2.1, S.2.2.2.1, g_lst S.2.2.1 x, S.2.2.2.2.2.1, S.2.2.2.2.2.2) H1 ∧ g_K (g_M a z) H0 H1)) 0 0 (x_fr (g_Mx a z) H0) := by
  refine Met.ofW (cc := prog_1_method_11_code) (maxL := 2) (ret := (some .int)) (by decide) rfl ?_
  intro p e s m args below meth c s₁ B hml hv
  obtain ⟨rfl, hH, hK, hN⟩ := hv
  obtain ⟨hx, hb, hr, htb, hown, hlocks⟩ := x_start (wd := Cond.code y_Bd_list prog_1_method_11_code 2 (some .int)) B
  have hl := lv_entry ([.ref a, .int x]) (n := 2) (Nat.le_of_ble_eq_true rfl)
  rw [lg_entry_eq]
  generalize (lg_sl ([.ref a, .int x]) ++ List.replicate (2 - (lg_sl ([.ref a, .int x])).length) Slot.unset).toArray = ls at hl ⊢
  have hl : lv_has ls 2 [(0, .ref a), (1, .int x)] := hl
  rw [hH]
  obtain ⟨pa, as, bs, cs, ds, h1, h2, h3, ⟨h4, h4s⟩, ⟨h5, h5s⟩, ⟨h6, h6s⟩, ⟨h7, h7s⟩, h8, h9⟩ := id hd
  have hL : ∀ q ∈ ([] : List Loc), x_fr (g_Mx a z) H0 q.base := fun q hq => by cases hq
  obtain ⟨g, g1, -⟩ := id h6
  refine lv_iload_n hx hb d_Bd_list_0 rfl (lv_at hl 1 rfl) ?_
  refine x_callP (va_runS (As := [.int x]) (rest := []) ⟨hx, hb, hml, hown, htb⟩ (c_Bd_isSort l hx0) (x_cS 1 htb mw_193 mw_1 mw_195 mw_194 rfl rfl (by decide +kernel) ⟨Nat.le_of_ble_eq_true rfl, Nat.le_of_ble_eq_true rfl⟩) (x_preS hK hN) rfl rfl hl.1 rfl (lv_room (Nat.le_of_ble_eq_true rfl)) d_Bd_list_1 ⟨Nat.le_of_ble_eq_true rfl, Nat.le_of_ble_eq_true rfl⟩) ?_
  refine W.eq (g2 := F0 m 4 ls [.int 1]) rfl ?_
  refine lv_if_ne (tgt := 9) hx hb d_Bd_list_4 (by decide) (fun _ => ?_) (fun c9 => absurd c9 (by decide))
  refine lv_aload_n hx hb d_Bd_list_9 rfl (lv_at hl 0 rfl) ?_
  refine x_get (ci := 7) (T := T_Bd) hx hb htb u_Bd hown hK h1 rfl 3 (by decide) (htb _ mw_88) (fun _ h9 => h9) (v := .ref (z + 6)) rfl d_Bd_list_10 ?_
  refine lv_aload_n hx hb d_Bd_list_13 rfl (lv_at hl 0 rfl) ?_
  refine x_get (ci := 7) (T := T_Bd) hx hb htb u_Bd hown hK h1 rfl 1 (by decide) (htb _ mw_86) (fun _ h9 => h9) (v := .ref (z + 2)) rfl d_Bd_list_14 ?_
  refine lv_iload_n hx hb d_Bd_list_17 rfl (lv_at hl 1 rfl) ?_
  refine x_call (F := x_fr (g_Mx a z) H0) (va_runV (As := [.ref (z + 2), .int x]) (rest := []) ⟨hx, hb, hml, hown, htb⟩ (c_Fi_copySortFrom l (x := x) h6 h4 h4s (g_M.in (i := 6) (by decide)) (g_M.in (i := 7) (by decide)) (by omega) (by omega) (by omega) (by omega) (by omega)) (x_cV 2 htb mw_196 mw_3 mw_199 mw_197 mw_198 rfl rfl (by decide +kernel) ⟨Nat.le_of_ble_eq_true rfl, Nat.le_of_ble_eq_true rfl⟩) (x_preV hK hN g1 rfl) rfl rfl hl.1 rfl (lv_room (Nat.le_of_ble_eq_true rfl)) d_Bd_list_18 ⟨Nat.le_of_ble_eq_true rfl, Nat.le_of_ble_eq_true rfl⟩) hL (fun q hq => Or.inl (hq.elim (fun e => e ▸ g_M.in (by decide)) (fun e => e ▸ g_M.in (by decide)))) (fun H1 locs hP hL => ?_)
  refine W.eq (g2 := F0 m 21 ls []) rfl ?_
  obtain ⟨xs, q1, hs1, q2⟩ := hP
  have hk1 := q2.K (M := g_M a z) (g_M.in (i := 6) (by decide)) (g_M.in (i := 7) (by decide))
  have hd1 := hd.told q2 q1 hs1
  have h1 := q2.at h1 (by omega) (by omega)
  obtain ⟨g2, g3, -⟩ := id q1
  refine lv_aload_n hx hb d_Bd_list_21 rfl (lv_at hl 0 rfl) ?_
  refine x_get (ci := 7) (T := T_Bd) hx hb htb u_Bd hown hK h1 rfl 3 (by decide) (htb _ mw_88) (fun _ h9 => h9) (v := .ref (z + 6)) rfl d_Bd_list_22 ?_
  refine x_getN (ci := 5) (T := T_Fi) hx hb htb u_Fi hown hK g3 rfl 1 (by decide) (va_Nw.use rfl (hN.1 _ nf_53)) (fun _ h9 => h9) (v := .int (nI xs.length)) rfl d_Bd_list_25 ?_
  exact x_iret hx hb hr hlocks (by rw [hs1.1]) ⟨hd1, hk1⟩ hL (Nat.le_refl _) (Nat.le_refl _) d_Bd_list_28
set_option maxHeartbeats 4000000 in
set_option maxRecDepth 100000 in
theorem c_Bd_listN (l : Launch) {D : va_G} {A : Nat → ClassId} {H0 : Heap} {a z : Nat} {S : g_S} (hd : g_D D A a z S H0) {x : Int32} (hx0 : ¬ g_sort x) : Met l y_Bd_list w_Bd_list { frames := 4, cells := 0, slots := 0, locals := 90 } (x_Pc D A [.ref a, .int x] H0) (x_Q (some (.int (-1))) (fun H1 => H1 = H0)) 0 0 (fun _ => False) := by
  refine Met.ofW (cc := prog_1_method_11_code) (maxL := 2) (ret := (some .int)) (by decide) rfl ?_
  intro p e s m args below meth c s₁ B hml hv
  obtain ⟨rfl, hH, hK, hN⟩ := hv
  obtain ⟨hx, hb, hr, htb, hown, hlocks⟩ := x_start (wd := Cond.code y_Bd_list prog_1_method_11_code 2 (some .int)) B
  have hl := lv_entry ([.ref a, .int x]) (n := 2) (Nat.le_of_ble_eq_true rfl)
  rw [lg_entry_eq]
  generalize (lg_sl ([.ref a, .int x]) ++ List.replicate (2 - (lg_sl ([.ref a, .int x])).length) Slot.unset).toArray = ls at hl ⊢
  have hl : lv_has ls 2 [(0, .ref a), (1, .int x)] := hl
  rw [hH]
  refine lv_iload_n hx hb d_Bd_list_0 rfl (lv_at hl 1 rfl) ?_
  refine x_callP (va_runS (As := [.int x]) (rest := []) ⟨hx, hb, hml, hown, htb⟩ (c_Bd_isSortN l hx0) (x_cS 1 htb mw_193 mw_1 mw_195 mw_194 rfl rfl (by decide +kernel) ⟨Nat.le_of_ble_eq_true rfl, Nat.le_of_ble_eq_true rfl⟩) (x_preS hK hN) rfl rfl hl.1 rfl (lv_room (Nat.le_of_ble_eq_true rfl)) d_Bd_list_1 ⟨Nat.le_of_ble_eq_true rfl, Nat.le_of_ble_eq_true rfl⟩) ?_
  refine W.eq (g2 := F0 m 4 ls [.int 0]) rfl ?_
  refine lv_if_ne (tgt := 9) hx hb d_Bd_list_4 (by decide) (fun c9 => absurd rfl c9) (fun _ => ?_)
  refine lv_iconst (v := (-1)) hx hb d_Bd_list_7 (by decide) ?_
  exact x_iret hx hb hr hlocks rfl rfl (fun q hq => by cases hq) (Nat.le_refl _) (Nat.le_refl _) d_Bd_list_8
def g_lsd (fs : List g_F) (i k : Int32) : Int32 := if i < 0 then -1 else match fs[i.toNatClampNeg]? with
  | some f => if k = -1 then f.1.2.1 else g_at f.1.2.2 k
  | none => -1
set_option maxHeartbeats 4000000 in
set_option maxRecDepth 100000 in
theorem c_Bd_listed (l : Launch) {D : va_G} {A : Nat → ClassId} {H0 : Heap} {a z : Nat} {S : g_S} (hd : g_D D A a z S H0) (i kk : Int32) : Met l y_Bd_listed w_Bd_listed { frames := 1, cells := 0, slots := 0, locals := 21 } (x_Pc D A [.ref a, .int i, .int kk] H0) (x_Q (some (.int (g_lsd S.2.2.2.2.1 i kk))) (fun H1 => H1 = H0)) 0 0 (fun _ => False) := by
  refine Met.ofW (cc := prog_1_method_12_code) (maxL := 4) (ret := (some .int)) (by decide) rfl ?_
  intro p e s m args below meth c s₁ B hml hv
  obtain ⟨rfl, hH, hK, hN⟩ := hv
  obtain ⟨hx, hb, hr, htb, hown, hlocks⟩ := x_start (wd := Cond.code y_Bd_listed prog_1_method_12_code 4 (some .int)) B
  have hl := lv_entry ([.ref a, .int i, .int kk]) (n := 4) (Nat.le_of_ble_eq_true rfl)
  rw [lg_entry_eq]
  generalize (lg_sl ([.ref a, .int i, .int kk]) ++ List.replicate (4 - (lg_sl ([.ref a, .int i, .int kk])).length) Slot.unset).toArray = ls at hl ⊢
  have hl : lv_has ls 4 [(0, .ref a), (1, .int i), (2, .int kk)] := hl
  rw [hH]
  obtain ⟨pa, as, bs, cs, ds, h1, h2, h3, ⟨h4, h4s⟩, ⟨h5, h5s⟩, ⟨h6, h6s⟩, ⟨h7, h7s⟩, h8, h9⟩ := id hd
  obtain ⟨g, g1, g2, g3, g4⟩ := id h6
  refine lv_aload_n hx hb d_Bd_listed_0 rfl (lv_at hl 0 rfl) ?_
  refine x_get (ci := 7) (T := T_Bd) hx hb htb u_Bd hown hK h1 rfl 3 (by decide) (htb _ mw_88) (fun _ h9 => h9) (v := .ref (z + 6)) rfl d_Bd_listed_1 ?_
  refine lv_iload_n hx hb d_Bd_listed_4 rfl (lv_at hl 1 rfl) ?_
  by_cases ho : i < 0 ∨ nI cs.length ≤ i
  · refine x_callP (va_runV (As := [.int i]) (rest := []) ⟨hx, hb, hml, hown, htb⟩ (c_Fi_nthN l h6 ho) (x_cV 1 htb mw_215 mw_3 mw_176 mw_174 mw_175 rfl rfl (by decide +kernel) ⟨Nat.le_of_ble_eq_true rfl, Nat.le_of_ble_eq_true rfl⟩) (x_preV hK hN g1 rfl) rfl rfl hl.1 rfl (lv_room (Nat.le_of_ble_eq_true rfl)) d_Bd_listed_5 ⟨Nat.le_of_ble_eq_true rfl, Nat.le_of_ble_eq_true rfl⟩) ?_
    refine W.eq (g2 := F0 m 8 ls [.null]) rfl ?_
    refine lv_astore_nN (lv' := [(3, .null), (0, .ref a), (1, .int i), (2, .int kk)]) hx hb d_Bd_listed_8 rfl hl (by decide) rfl (fun ls hl => ?_)
    refine lv_aload_nN hx hb d_Bd_listed_9 rfl (lv_at hl 0 rfl) ?_
    refine lv_ifnonnullN hx hb d_Bd_listed_10 ?_
    refine lv_iconst (v := (-1)) hx hb d_Bd_listed_13 (by decide) ?_
    refine x_iret hx hb hr hlocks ?_ rfl (fun q hq => by cases hq) (Nat.le_refl _) (Nat.le_refl _) d_Bd_listed_14
    unfold g_lsd
    by_cases c1 : i < 0
    · rw [if_pos c1]
    · rw [if_neg c1, List.getElem?_eq_none]
      rw [← h6s.1]
      refine Nat.le_of_not_lt fun q => ?_
      obtain ⟨j, hj31, rfl⟩ := nI_of c1
      rw [nI_clamp hj31] at q
      exact absurd (ho.resolve_left c1) (nI_ge q (by omega))
  · obtain ⟨c1, c2⟩ := not_or.mp ho
    obtain ⟨j, hj, rfl⟩ : ∃ j : Nat, j < cs.length ∧ i = nI j := by
      rcases pk_ix i (n := cs.length) (by omega) with q | q | q
      · exact absurd q c1
      · exact absurd q c2
      · exact q
    obtain ⟨fa, hfa⟩ := g_ex hj
    obtain ⟨f, hff⟩ := g_ex (as := S.2.2.2.2.1) (j := j) (by rw [← h6s.1]; exact hj)
    obtain ⟨na, ca, f1, f2, ⟨pb, f3, f3m, f5⟩, f4⟩ := h6s.2 j fa f hfa hff
    obtain ⟨pr, f6, -⟩ := id f5
    have hg : ∀ x : Int32, g_lsd S.2.2.2.2.1 (nI j) x = if x = -1 then f.1.2.1 else g_at f.1.2.2 x := fun x => by
      unfold g_lsd
      rw [if_neg c1, nI_clamp (by omega), hff]
    refine x_callP (va_runV (As := [.int (nI j)]) (rest := []) ⟨hx, hb, hml, hown, htb⟩ (c_Fi_nth l h6 hfa) (x_cV 1 htb mw_215 mw_3 mw_176 mw_174 mw_175 rfl rfl (by decide +kernel) ⟨Nat.le_of_ble_eq_true rfl, Nat.le_of_ble_eq_true rfl⟩) (x_preV hK hN g1 rfl) rfl rfl hl.1 rfl (lv_room (Nat.le_of_ble_eq_true rfl)) d_Bd_listed_5 ⟨Nat.le_of_ble_eq_true rfl, Nat.le_of_ble_eq_true rfl⟩) ?_
    refine W.eq (g2 := F0 m 8 ls [.ref fa]) rfl ?_
    refine lv_astore_n (lv' := [(3, .ref fa), (0, .ref a), (1, .int (nI j)), (2, .int kk)]) hx hb d_Bd_listed_8 rfl hl (by decide) rfl (fun ls hl => ?_)
    refine lv_aload_n hx hb d_Bd_listed_9 rfl (lv_at hl 0 rfl) ?_
    refine lv_ifnonnull (tgt := 15) hx hb d_Bd_listed_10 (by decide) ?_
    refine lv_iload_n hx hb d_Bd_listed_15 rfl (lv_at hl 3 rfl) ?_
    refine lv_iconst (v := (-1)) hx hb d_Bd_listed_16 (by decide) ?_
    refine lv_icmp_ne (tgt := 30) hx hb d_Bd_listed_17 (by decide) (fun c3 => ?_) (fun c3 => ?_)
    · refine lv_aload_n hx hb d_Bd_listed_30 rfl (lv_at hl 0 rfl) ?_
      refine x_getN (ci := 2) (T := T_Sf) hx hb htb u_Sf hown hK f1 rfl 0 (by decide) (va_Nw.use rfl (hN.1 _ nf_384)) (fun _ h9 => h9) (v := .ref na) rfl d_Bd_listed_31 ?_
      refine x_getN (ci := 1) (T := T_Nm) hx hb htb u_Nm hown hK f3 rfl 2 (by decide) (va_Nw.use rfl (hN.1 _ nf_146)) (fun _ h9 => h9) (v := .ref pb) rfl d_Bd_listed_34 ?_
      refine lv_iload_n hx hb d_Bd_listed_37 rfl (lv_at hl 3 rfl) ?_
      refine x_callP (va_runV (As := [.int kk]) (rest := []) ⟨hx, hb, hml, hown, htb⟩ (c_By_byteAt l f5 kk) (x_cV 1 htb mw_185 mw_5 mw_188 mw_186 mw_187 rfl rfl (by decide +kernel) ⟨Nat.le_of_ble_eq_true rfl, Nat.le_of_ble_eq_true rfl⟩) (x_preV hK hN f6 rfl) rfl rfl hl.1 rfl (lv_room (Nat.le_of_ble_eq_true rfl)) d_Bd_listed_38 ⟨Nat.le_of_ble_eq_true rfl, Nat.le_of_ble_eq_true rfl⟩) ?_
      refine W.eq (g2 := F0 m 41 ls [.int (g_at f.1.2.2 kk)]) rfl ?_
      exact x_iret hx hb hr hlocks (by rw [hg, if_neg c3]) rfl (fun q hq => by cases hq) (Nat.le_refl _) (Nat.le_refl _) d_Bd_listed_41
    · refine lv_aload_n hx hb d_Bd_listed_20 rfl (lv_at hl 0 rfl) ?_
      refine x_getN (ci := 2) (T := T_Sf) hx hb htb u_Sf hown hK f1 rfl 0 (by decide) (va_Nw.use rfl (hN.1 _ nf_384)) (fun _ h9 => h9) (v := .ref na) rfl d_Bd_listed_21 ?_
      refine x_getN (ci := 1) (T := T_Nm) hx hb htb u_Nm hown hK f3 rfl 1 (by decide) (va_Nw.use rfl (hN.1 _ nf_144)) (fun _ h9 => h9) (v := .int f.1.2.1) rfl d_Bd_listed_24 ?_
      refine lv_goto (tgt := 41) hx hb d_Bd_listed_27 (by decide) ?_
      exact x_iret hx hb hr hlocks (by rw [hg, if_pos c3]) rfl (fun q hq => by cases hq) (Nat.le_refl _) (Nat.le_refl _) d_Bd_listed_41
