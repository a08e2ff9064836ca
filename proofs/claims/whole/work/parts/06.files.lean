/-! FILES: rows of references, by the list of their addresses; the files that lie there -/
/-- the first places of a row -/
def g_row (g : Nat → Option Nat) (as : List Nat) : Prop := ∀ (j a : Nat), as[j]? = some a → g j = some a
/-- an object with a row of references and a length: ci its class, t the row's, n the row's size -/
def g_fr (D : va_G) (A : Nat → ClassId) (ci t n h r : Nat) (as : List Nat) (H : Heap) : Prop :=
  ∃ g : Nat → Option Nat, va_at D x_cl (h, .inr (ci, [.ref r, .int (nI as.length)])) H ∧ va_at D x_cl (r, .inl (A t, n, .inr (.inr (.inr (.inr g))))) H ∧ g_row g as ∧ as.length ≤ n
/-- files at these addresses -/
def g_fs (D : va_G) (A : Nat → ClassId) (M : Nat → Prop) (as : List Nat) (fs : List g_F) (H : Heap) : Prop := as.length = fs.length ∧ ∀ (j a : Nat) (f : g_F), as[j]? = some a → fs[j]? = some f → g_sf D A M a f H
def g_os (D : va_G) (A : Nat → ClassId) (M : Nat → Prop) (as : List Nat) (os : List g_O) (H : Heap) : Prop := as.length = os.length ∧ ∀ (j a : Nat) (f : g_O), as[j]? = some a → os[j]? = some f → g_op D A M a f H
theorem g_fs.kept {D : va_G} {A : Nat → ClassId} {M N : Nat → Prop} {as : List Nat} {fs : List g_F} {H H1 : Heap} (h : g_fs D A M as fs H) (hk : g_K N H H1) (hNM : ∀ q, N q → M q := by first | exact fun _ h => h | exact fun _ h => h.elim Or.inl (fun h => Or.inr (Or.inl h))) : g_fs D A M as fs H1 := ⟨h.1, fun j a f h1 h2 => (h.2 j a f h1 h2).kept hk hNM⟩
theorem g_os.kept {D : va_G} {A : Nat → ClassId} {M N : Nat → Prop} {as : List Nat} {os : List g_O} {H H1 : Heap} (h : g_os D A M as os H) (hk : g_K N H H1) (hNM : ∀ q, N q → M q := by first | exact fun _ h => h | exact fun _ h => h.elim Or.inl (fun h => Or.inr (Or.inl h))) : g_os D A M as os H1 := ⟨h.1, fun j a f h1 h2 => (h.2 j a f h1 h2).kept hk hNM⟩
/-- H1 is H but for two cells -/
def x_but2 (a b : Nat) (H H1 : Heap) : Prop := H1.size = H.size ∧ ∀ q : Nat, q ≠ a → q ≠ b → H1[q]? = H[q]?
theorem x_but2.refl {a b : Nat} {H : Heap} : x_but2 a b H H := ⟨rfl, fun _ _ _ => rfl⟩
theorem x_but2.trans {a b : Nat} {H H1 H2 : Heap} (h : x_but2 a b H H1) (h2 : x_but2 a b H1 H2) : x_but2 a b H H2 := ⟨h2.1.trans h.1, fun q h3 h4 => (h2.2 q h3 h4).trans (h.2 q h3 h4)⟩
theorem x_but2.l {a b : Nat} {H H1 : Heap} (h : x_but a H H1) : x_but2 a b H H1 := ⟨h.1, fun q h3 _ => h.2 q h3⟩
theorem x_but2.r {a b : Nat} {H H1 : Heap} (h : x_but b H H1) : x_but2 a b H H1 := ⟨h.1, fun q _ h4 => h.2 q h4⟩
theorem x_but2.K {M : Nat → Prop} {a b : Nat} {H H1 : Heap} (h : x_but2 a b H H1) (ha : M a) (hb : M b) : g_K M H H1 := ⟨Nat.le_of_eq h.1.symm, fun q _ hM => h.2 q (fun e => hM (e ▸ ha)) (fun e => hM (e ▸ hb))⟩
/-- where the file of a name lies -/
def g_find (fs : List g_F) (n : g_N) : Option Nat := fs.findIdx? (fun f => decide (g_no n f.1 = 0))
def g_ixv : Option Nat → Int32
  | some i => nI i
  | none => -1
theorem g_find_some {fs : List g_F} {n : g_N} {i : Nat} {f : g_F} (h : ∀ (j : Nat) (f : g_F), j < i → fs[j]? = some f → ¬ g_no n f.1 = 0) (hf : fs[i]? = some f) (h0 : g_no n f.1 = 0) : g_find fs n = some i := by
  obtain ⟨hi, e⟩ := List.getElem?_eq_some_iff.mp hf
  refine List.findIdx?_eq_some_iff_getElem.mpr ⟨hi, by rw [e]; exact decide_eq_true h0, fun j hj => ?_⟩
  have h1 := h j _ hj (List.getElem?_eq_getElem (by omega))
  simpa using h1
theorem g_find_none {fs : List g_F} {n : g_N} (h : ∀ (j : Nat) (f : g_F), j < fs.length → fs[j]? = some f → ¬ g_no n f.1 = 0) : g_find fs n = none := by
  refine List.findIdx?_eq_none_iff.mpr (fun f hf => ?_)
  obtain ⟨j, hj⟩ := List.getElem?_of_mem hf
  exact decide_eq_false (h j f (List.getElem?_eq_some_iff.mp hj).1 hj)
theorem g_ex {α : Type} {as : List α} {j : Nat} (h : j < as.length) : ∃ a, as[j]? = some a := ⟨_, List.getElem?_eq_getElem h⟩
set_option maxHeartbeats 4000000 in
set_option maxRecDepth 100000 in
theorem c_Nm_order (l : Launch) {D : va_G} {A : Nat → ClassId} {H0 : Heap} {M : Nat → Prop} {a b : Nat} {n o : g_N} (h : g_nm D A M a n H0) (g : g_nm D A M b o H0) : Met l y_Nm_order w_Nm_order { frames := 1, cells := 0, slots := 0, locals := 24 } (x_Pc D A [.ref a, .ref b] H0) (x_Q (some (.int (g_no n o))) (fun H1 => H1 = H0)) 0 0 (fun _ => False) := by
  refine Met.ofW (cc := prog_5_method_2_code) (maxL := 2) (ret := (some .int)) (by decide) rfl ?_
  intro p e s m args below meth c s₁ B hml hv
  obtain ⟨rfl, hH, hK, hN⟩ := hv
  obtain ⟨hx, hb, hr, htb, hown, hlocks⟩ := x_start (wd := Cond.code y_Nm_order prog_5_method_2_code 2 (some .int)) B
  have hl := lv_entry ([.ref a, .ref b]) (n := 2) (Nat.le_of_ble_eq_true rfl)
  rw [lg_entry_eq]
  generalize (lg_sl ([.ref a, .ref b]) ++ List.replicate (2 - (lg_sl ([.ref a, .ref b])).length) Slot.unset).toArray = ls at hl ⊢
  have hl : lv_has ls 2 [(0, .ref a), (1, .ref b)] := hl
  rw [hH]
  obtain ⟨pa, h1, h2, h3⟩ := h
  obtain ⟨pb, g1, g2, g3⟩ := g
  obtain ⟨r1, h4, h4r⟩ := id h3
  refine lv_aload_n hx hb d_Nm_order_0 rfl (lv_at hl 0 rfl) ?_
  refine x_get (ci := 1) (T := T_Nm) hx hb htb u_Nm hown hK h1 rfl 0 (by decide) (htb _ mw_141) (fun _ h9 => h9) (v := .int n.1) rfl d_Nm_order_1 ?_
  refine lv_aload_n hx hb d_Nm_order_4 rfl (lv_at hl 1 rfl) ?_
  refine x_get (ci := 1) (T := T_Nm) hx hb htb u_Nm hown hK g1 rfl 0 (by decide) (htb _ mw_141) (fun _ h9 => h9) (v := .int o.1) rfl d_Nm_order_5 ?_
  refine lv_icmp_eq (tgt := 23) hx hb d_Nm_order_8 (by decide) (fun c1 => ?_) (fun c1 => ?_)
  · refine lv_aload_n hx hb d_Nm_order_23 rfl (lv_at hl 0 rfl) ?_
    refine x_get (ci := 1) (T := T_Nm) hx hb htb u_Nm hown hK h1 rfl 1 (by decide) (htb _ mw_143) (fun _ h9 => h9) (v := .int n.2.1) rfl d_Nm_order_24 ?_
    refine lv_aload_n hx hb d_Nm_order_27 rfl (lv_at hl 1 rfl) ?_
    refine x_get (ci := 1) (T := T_Nm) hx hb htb u_Nm hown hK g1 rfl 1 (by decide) (htb _ mw_143) (fun _ h9 => h9) (v := .int o.2.1) rfl d_Nm_order_28 ?_
    refine lv_icmp_eq (tgt := 46) hx hb d_Nm_order_31 (by decide) (fun c2 => ?_) (fun c2 => ?_)
    · refine lv_aload_n hx hb d_Nm_order_46 rfl (lv_at hl 0 rfl) ?_
      refine x_get (ci := 1) (T := T_Nm) hx hb htb u_Nm hown hK h1 rfl 2 (by decide) (htb _ mw_145) (fun _ h9 => h9) (v := .ref pa) rfl d_Nm_order_47 ?_
      refine lv_aload_n hx hb d_Nm_order_50 rfl (lv_at hl 1 rfl) ?_
      refine x_get (ci := 1) (T := T_Nm) hx hb htb u_Nm hown hK g1 rfl 2 (by decide) (htb _ mw_145) (fun _ h9 => h9) (v := .ref pb) rfl d_Nm_order_51 ?_
      refine x_callP (va_runV (As := [.ref pb]) (rest := []) ⟨hx, hb, hml, hown, htb⟩ (c_By_order l h3 g3) (x_cV 1 htb mw_169 mw_5 mw_172 mw_170 mw_171 rfl rfl (by decide +kernel) ⟨Nat.le_of_ble_eq_true rfl, Nat.le_of_ble_eq_true rfl⟩) (x_preV hK hN h4 rfl) rfl rfl hl.1 rfl (lv_room (Nat.le_of_ble_eq_true rfl)) d_Nm_order_54 ⟨Nat.le_of_ble_eq_true rfl, Nat.le_of_ble_eq_true rfl⟩) ?_
      refine W.eq (g2 := F0 m 57 ls [.int (g_po n.2.2 o.2.2)]) rfl ?_
      exact x_iret hx hb hr hlocks (by rw [g_no, if_pos c1, if_pos c2]) rfl (fun q hq => by cases hq) (Nat.le_refl _) (Nat.le_refl _) d_Nm_order_57
    · refine lv_aload_n hx hb d_Nm_order_34 rfl (lv_at hl 0 rfl) ?_
      refine x_get (ci := 1) (T := T_Nm) hx hb htb u_Nm hown hK h1 rfl 1 (by decide) (htb _ mw_143) (fun _ h9 => h9) (v := .int n.2.1) rfl d_Nm_order_35 ?_
      refine lv_aload_n hx hb d_Nm_order_38 rfl (lv_at hl 1 rfl) ?_
      refine x_get (ci := 1) (T := T_Nm) hx hb htb u_Nm hown hK g1 rfl 1 (by decide) (htb _ mw_143) (fun _ h9 => h9) (v := .int o.2.1) rfl d_Nm_order_39 ?_
      refine x_callP (va_runS (As := [.int n.2.1, .int o.2.1]) (rest := []) ⟨hx, hb, hml, hown, htb⟩ (c_It_compare l n.2.1 o.2.1) (x_cS 2 htb mw_166 mw_16 mw_168 mw_167 rfl rfl (by decide +kernel) ⟨Nat.le_of_ble_eq_true rfl, Nat.le_of_ble_eq_true rfl⟩) (x_preS hK hN) rfl rfl hl.1 rfl (lv_room (Nat.le_of_ble_eq_true rfl)) d_Nm_order_42 ⟨Nat.le_of_ble_eq_true rfl, Nat.le_of_ble_eq_true rfl⟩) ?_
      refine W.eq (g2 := F0 m 45 ls [.int (g_cmp n.2.1 o.2.1)]) rfl ?_
      exact x_iret hx hb hr hlocks (by rw [g_no, if_pos c1, if_neg c2]) rfl (fun q hq => by cases hq) (Nat.le_refl _) (Nat.le_refl _) d_Nm_order_45
  · refine lv_aload_n hx hb d_Nm_order_11 rfl (lv_at hl 0 rfl) ?_
    refine x_get (ci := 1) (T := T_Nm) hx hb htb u_Nm hown hK h1 rfl 0 (by decide) (htb _ mw_141) (fun _ h9 => h9) (v := .int n.1) rfl d_Nm_order_12 ?_
    refine lv_aload_n hx hb d_Nm_order_15 rfl (lv_at hl 1 rfl) ?_
    refine x_get (ci := 1) (T := T_Nm) hx hb htb u_Nm hown hK g1 rfl 0 (by decide) (htb _ mw_141) (fun _ h9 => h9) (v := .int o.1) rfl d_Nm_order_16 ?_
    refine x_callP (va_runS (As := [.int n.1, .int o.1]) (rest := []) ⟨hx, hb, hml, hown, htb⟩ (c_It_compare l n.1 o.1) (x_cS 2 htb mw_166 mw_16 mw_168 mw_167 rfl rfl (by decide +kernel) ⟨Nat.le_of_ble_eq_true rfl, Nat.le_of_ble_eq_true rfl⟩) (x_preS hK hN) rfl rfl hl.1 rfl (lv_room (Nat.le_of_ble_eq_true rfl)) d_Nm_order_19 ⟨Nat.le_of_ble_eq_true rfl, Nat.le_of_ble_eq_true rfl⟩) ?_
    refine W.eq (g2 := F0 m 22 ls [.int (g_cmp n.1 o.1)]) rfl ?_
    exact x_iret hx hb hr hlocks (by rw [g_no, if_neg c1]) rfl (fun q hq => by cases hq) (Nat.le_refl _) (Nat.le_refl _) d_Nm_order_22
set_option maxHeartbeats 4000000 in
set_option maxRecDepth 100000 in
theorem c_Fi_isFull (l : Launch) {D : va_G} {A : Nat → ClassId} {H0 : Heap} {h r : Nat} {as : List Nat} (hf : g_fr D A 5 1 60 h r as H0) : Met l y_Fi_isFull w_Fi_isFull { frames := 0, cells := 0, slots := 0, locals := 0 } (x_Pc D A [.ref h] H0) (x_Q (some (.int (if 60 ≤ as.length then 1 else 0))) (fun H1 => H1 = H0)) 0 0 (fun _ => False) := by
  refine Met.ofW (cc := prog_3_method_2_code) (maxL := 1) (ret := (some .boolean)) (by decide) rfl ?_
  intro p e s m args below meth c s₁ B hml hv
  obtain ⟨rfl, hH, hK, hN⟩ := hv
  obtain ⟨hx, hb, hr, htb, hown, hlocks⟩ := x_start (wd := Cond.code y_Fi_isFull prog_3_method_2_code 1 (some .boolean)) B
  have hl := lv_entry ([.ref h]) (n := 1) (Nat.le_of_ble_eq_true rfl)
  rw [lg_entry_eq]
  generalize (lg_sl ([.ref h]) ++ List.replicate (1 - (lg_sl ([.ref h])).length) Slot.unset).toArray = ls at hl ⊢
  have hl : lv_has ls 1 [(0, .ref h)] := hl
  rw [hH]
  obtain ⟨g, h1, h2, h3, h4⟩ := hf
  refine lv_aload_n hx hb d_Fi_isFull_0 rfl (lv_at hl 0 rfl) ?_
  refine x_get (ci := 5) (T := T_Fi) hx hb htb u_Fi hown hK h1 rfl 1 (by decide) (htb _ mw_52) (fun _ h9 => h9) (v := .int (nI as.length)) rfl d_Fi_isFull_1 ?_
  refine lv_aload_n hx hb d_Fi_isFull_4 rfl (lv_at hl 0 rfl) ?_
  refine x_get (ci := 5) (T := T_Fi) hx hb htb u_Fi hown hK h1 rfl 0 (by decide) (htb _ mw_51) (fun _ h9 => h9) (v := .ref r) rfl d_Fi_isFull_5 ?_
  refine x_alen hx hb hK 1 h2 rfl (v := nI 60) rfl d_Fi_isFull_8 ?_
  refine lv_icmp_lt (tgt := 16) hx hb d_Fi_isFull_9 (by decide) (fun c1 => ?_) (fun c1 => ?_)
  · refine lv_iconst (v := 0) hx hb d_Fi_isFull_16 (by decide) ?_
    exact x_zret hx hb hr hlocks (by rw [if_neg (fun q => absurd c1 (nI_nlt q (by omega)))]) (by decide) rfl (fun q hq => by cases hq) (Nat.le_refl _) (Nat.le_refl _) d_Fi_isFull_17
  · refine lv_iconst (v := 1) hx hb d_Fi_isFull_12 (by decide) ?_
    refine lv_goto (tgt := 17) hx hb d_Fi_isFull_13 (by decide) ?_
    exact x_zret hx hb hr hlocks (by rw [if_pos (Nat.le_of_not_lt fun q => c1 (nI_lt q (by omega)))]) (by decide) rfl (fun q hq => by cases hq) (Nat.le_refl _) (Nat.le_refl _) d_Fi_isFull_17
set_option maxHeartbeats 4000000 in
set_option maxRecDepth 100000 in
theorem c_Jo_isFull (l : Launch) {D : va_G} {A : Nat → ClassId} {H0 : Heap} {h r : Nat} {as : List Nat} (hf : g_fr D A 6 2 200 h r as H0) : Met l y_Jo_isFull w_Jo_isFull { frames := 0, cells := 0, slots := 0, locals := 0 } (x_Pc D A [.ref h] H0) (x_Q (some (.int (if 200 ≤ as.length then 1 else 0))) (fun H1 => H1 = H0)) 0 0 (fun _ => False) := by
  refine Met.ofW (cc := prog_4_method_2_code) (maxL := 1) (ret := (some .boolean)) (by decide) rfl ?_
  intro p e s m args below meth c s₁ B hml hv
  obtain ⟨rfl, hH, hK, hN⟩ := hv
  obtain ⟨hx, hb, hr, htb, hown, hlocks⟩ := x_start (wd := Cond.code y_Jo_isFull prog_4_method_2_code 1 (some .boolean)) B
  have hl := lv_entry ([.ref h]) (n := 1) (Nat.le_of_ble_eq_true rfl)
  rw [lg_entry_eq]
  generalize (lg_sl ([.ref h]) ++ List.replicate (1 - (lg_sl ([.ref h])).length) Slot.unset).toArray = ls at hl ⊢
  have hl : lv_has ls 1 [(0, .ref h)] := hl
  rw [hH]
  obtain ⟨g, h1, h2, h3, h4⟩ := hf
  refine lv_aload_n hx hb d_Jo_isFull_0 rfl (lv_at hl 0 rfl) ?_
  refine x_get (ci := 6) (T := T_Jo) hx hb htb u_Jo hown hK h1 rfl 1 (by decide) (htb _ mw_68) (fun _ h9 => h9) (v := .int (nI as.length)) rfl d_Jo_isFull_1 ?_
  refine lv_aload_n hx hb d_Jo_isFull_4 rfl (lv_at hl 0 rfl) ?_
  refine x_get (ci := 6) (T := T_Jo) hx hb htb u_Jo hown hK h1 rfl 0 (by decide) (htb _ mw_67) (fun _ h9 => h9) (v := .ref r) rfl d_Jo_isFull_5 ?_
  refine x_alen hx hb hK 2 h2 rfl (v := nI 200) rfl d_Jo_isFull_8 ?_
  refine lv_icmp_lt (tgt := 16) hx hb d_Jo_isFull_9 (by decide) (fun c1 => ?_) (fun c1 => ?_)
  · refine lv_iconst (v := 0) hx hb d_Jo_isFull_16 (by decide) ?_
    exact x_zret hx hb hr hlocks (by rw [if_neg (fun q => absurd c1 (nI_nlt q (by omega)))]) (by decide) rfl (fun q hq => by cases hq) (Nat.le_refl _) (Nat.le_refl _) d_Jo_isFull_17
  · refine lv_iconst (v := 1) hx hb d_Jo_isFull_12 (by decide) ?_
    refine lv_goto (tgt := 17) hx hb d_Jo_isFull_13 (by decide) ?_
    exact x_zret hx hb hr hlocks (by rw [if_pos (Nat.le_of_not_lt fun q => c1 (nI_lt q (by omega)))]) (by decide) rfl (fun q hq => by cases hq) (Nat.le_refl _) (Nat.le_refl _) d_Jo_isFull_17
set_option maxHeartbeats 4000000 in
set_option maxRecDepth 100000 in
theorem c_Fi_isOfSort (l : Launch) {D : va_G} {A : Nat → ClassId} {H0 : Heap} {M : Nat → Prop} {a : Nat} {f : g_F} (hs : g_sf D A M a f H0) (x : Int32) : Met l y_Fi_isOfSort w_Fi_isOfSort { frames := 0, cells := 0, slots := 0, locals := 0 } (x_Pc D A [.ref a, .int x] H0) (x_Q (some (.int (if f.1.1 = x then 1 else 0))) (fun H1 => H1 = H0)) 0 0 (fun _ => False) := by
  refine Met.ofW (cc := prog_3_method_9_code) (maxL := 2) (ret := (some .boolean)) (by decide) rfl ?_
  intro p e s m args below meth c s₁ B hml hv
  obtain ⟨rfl, hH, hK, hN⟩ := hv
  obtain ⟨hx, hb, hr, htb, hown, hlocks⟩ := x_start (wd := Cond.code y_Fi_isOfSort prog_3_method_9_code 2 (some .boolean)) B
  have hl := lv_entry ([.ref a, .int x]) (n := 2) (Nat.le_of_ble_eq_true rfl)
  rw [lg_entry_eq]
  generalize (lg_sl ([.ref a, .int x]) ++ List.replicate (2 - (lg_sl ([.ref a, .int x])).length) Slot.unset).toArray = ls at hl ⊢
  have hl : lv_has ls 2 [(0, .ref a), (1, .int x)] := hl
  rw [hH]
  obtain ⟨na, ca, f1, f2, ⟨pa, f3, f3r⟩, f4⟩ := hs
  refine lv_aload_n hx hb d_Fi_isOfSort_0 rfl (lv_at hl 0 rfl) ?_
  refine lv_ifnull hx hb d_Fi_isOfSort_1 ?_
  refine lv_aload_n hx hb d_Fi_isOfSort_4 rfl (lv_at hl 0 rfl) ?_
  refine x_getN (ci := 2) (T := T_Sf) hx hb htb u_Sf hown hK f1 rfl 0 (by decide) (va_Nw.use rfl (hN.1 _ nf_385)) (fun _ h9 => h9) (v := .ref na) rfl d_Fi_isOfSort_5 ?_
  refine x_getN (ci := 1) (T := T_Nm) hx hb htb u_Nm hown hK f3 rfl 0 (by decide) (va_Nw.use rfl (hN.1 _ nf_142)) (fun _ h9 => h9) (v := .int f.1.1) rfl d_Fi_isOfSort_8 ?_
  refine lv_iload_n hx hb d_Fi_isOfSort_11 rfl (lv_at hl 1 rfl) ?_
  refine lv_icmp_ne (tgt := 19) hx hb d_Fi_isOfSort_12 (by decide) (fun c2 => ?_) (fun c2 => ?_)
  · refine lv_iconst (v := 0) hx hb d_Fi_isOfSort_19 (by decide) ?_
    exact x_zret hx hb hr hlocks (by rw [if_neg c2]) (by decide) rfl (fun q hq => by cases hq) (Nat.le_refl _) (Nat.le_refl _) d_Fi_isOfSort_20
  · refine lv_iconst (v := 1) hx hb d_Fi_isOfSort_15 (by decide) ?_
    refine lv_goto (tgt := 20) hx hb d_Fi_isOfSort_16 (by decide) ?_
    exact x_zret hx hb hr hlocks (by rw [if_pos c2]) (by decide) rfl (fun q hq => by cases hq) (Nat.le_refl _) (Nat.le_refl _) d_Fi_isOfSort_20
set_option maxHeartbeats 4000000 in
set_option maxRecDepth 100000 in
theorem c_Fi_nth (l : Launch) {D : va_G} {A : Nat → ClassId} {H0 : Heap} {h r : Nat} {as : List Nat} (hf : g_fr D A 5 1 60 h r as H0) {j a : Nat} (hj : as[j]? = some a) : Met l y_Fi_nth w_Fi_nth { frames := 0, cells := 0, slots := 0, locals := 0 } (x_Pc D A [.ref h, .int (nI j)] H0) (x_Q (some (.ref a)) (fun H1 => H1 = H0)) 0 0 (fun _ => False) := by
  refine Met.ofW (cc := prog_3_method_3_code) (maxL := 2) (ret := (some (.object "BreakingDisk$StoredFile"))) (by decide) rfl ?_
  intro p e s m args below meth c s₁ B hml hv
  obtain ⟨rfl, hH, hK, hN⟩ := hv
  obtain ⟨hx, hb, hr, htb, hown, hlocks⟩ := x_start (wd := Cond.code y_Fi_nth prog_3_method_3_code 2 (some (.object "BreakingDisk$StoredFile"))) B
  have hl := lv_entry ([.ref h, .int (nI j)]) (n := 2) (Nat.le_of_ble_eq_true rfl)
  rw [lg_entry_eq]
  generalize (lg_sl ([.ref h, .int (nI j)]) ++ List.replicate (2 - (lg_sl ([.ref h, .int (nI j)])).length) Slot.unset).toArray = ls at hl ⊢
  have hl : lv_has ls 2 [(0, .ref h), (1, .int (nI j))] := hl
  rw [hH]
  obtain ⟨g, h1, h2, h3, h4⟩ := hf
  have hlt : j < as.length := (List.getElem?_eq_some_iff.mp hj).1
  refine lv_iload_n hx hb d_Fi_nth_0 rfl (lv_at hl 1 rfl) ?_
  refine lv_if_lt (tgt := 21) hx hb d_Fi_nth_1 (by decide) (fun c9 => absurd c9 (nI_pos (by omega))) (fun _ => ?_)
  refine lv_iload_n hx hb d_Fi_nth_4 rfl (lv_at hl 1 rfl) ?_
  refine lv_aload_n hx hb d_Fi_nth_5 rfl (lv_at hl 0 rfl) ?_
  refine x_get (ci := 5) (T := T_Fi) hx hb htb u_Fi hown hK h1 rfl 1 (by decide) (htb _ mw_52) (fun _ h9 => h9) (v := .int (nI as.length)) rfl d_Fi_nth_6 ?_
  refine lv_icmp_ge (tgt := 21) hx hb d_Fi_nth_9 (by decide) (fun c9 => absurd c9 (nI_ge hlt (by omega))) (fun _ => ?_)
  refine lv_aload_n hx hb d_Fi_nth_12 rfl (lv_at hl 0 rfl) ?_
  refine x_get (ci := 5) (T := T_Fi) hx hb htb u_Fi hown hK h1 rfl 0 (by decide) (htb _ mw_51) (fun _ h9 => h9) (v := .ref r) rfl d_Fi_nth_13 ?_
  refine lv_iload_n hx hb d_Fi_nth_16 rfl (lv_at hl 1 rfl) ?_
  refine x_aldq hx hb hK 1 h2 rfl (vp_in_nI (by omega) (by omega)) (r := .ref a) (by rw [nI_clamp (by omega), h3 j a hj]; rfl) d_Fi_nth_17 ?_
  refine lv_goto (tgt := 22) hx hb d_Fi_nth_18 (by decide) ?_
  exact x_aret hx hb hr (Or.inl ⟨_, rfl⟩) (Or.inr ⟨_, rfl⟩) hlocks rfl (fun q hq => by cases hq) (Nat.le_refl _) (Nat.le_refl _) d_Fi_nth_22
set_option maxHeartbeats 4000000 in
set_option maxRecDepth 100000 in
theorem c_Fi_nthN (l : Launch) {D : va_G} {A : Nat → ClassId} {H0 : Heap} {h r : Nat} {as : List Nat} (hf : g_fr D A 5 1 60 h r as H0) {x : Int32} (ho : x < 0 ∨ nI as.length ≤ x) : Met l y_Fi_nth w_Fi_nth { frames := 0, cells := 0, slots := 0, locals := 0 } (x_Pc D A [.ref h, .int x] H0) (x_Q (some .null) (fun H1 => H1 = H0)) 0 0 (fun _ => False) := by
  refine Met.ofW (cc := prog_3_method_3_code) (maxL := 2) (ret := (some (.object "BreakingDisk$StoredFile"))) (by decide) rfl ?_
  intro p e s m args below meth c s₁ B hml hv
  obtain ⟨rfl, hH, hK, hN⟩ := hv
  obtain ⟨hx, hb, hr, htb, hown, hlocks⟩ := x_start (wd := Cond.code y_Fi_nth prog_3_method_3_code 2 (some (.object "BreakingDisk$StoredFile"))) B
  have hl := lv_entry ([.ref h, .int x]) (n := 2) (Nat.le_of_ble_eq_true rfl)
  rw [lg_entry_eq]
  generalize (lg_sl ([.ref h, .int x]) ++ List.replicate (2 - (lg_sl ([.ref h, .int x])).length) Slot.unset).toArray = ls at hl ⊢
  have hl : lv_has ls 2 [(0, .ref h), (1, .int x)] := hl
  rw [hH]
  obtain ⟨g, h1, h2, h3, h4⟩ := hf
  refine lv_iload_n hx hb d_Fi_nth_0 rfl (lv_at hl 1 rfl) ?_
  refine lv_if_lt (tgt := 21) hx hb d_Fi_nth_1 (by decide) (fun c1 => ?_) (fun c1 => ?_)
  · refine lv_null hx hb d_Fi_nth_21 ?_
    exact x_aret hx hb hr (Or.inl ⟨_, rfl⟩) (Or.inl rfl) hlocks rfl (fun q hq => by cases hq) (Nat.le_refl _) (Nat.le_refl _) d_Fi_nth_22
  · refine lv_iload_n hx hb d_Fi_nth_4 rfl (lv_at hl 1 rfl) ?_
    refine lv_aload_n hx hb d_Fi_nth_5 rfl (lv_at hl 0 rfl) ?_
    refine x_get (ci := 5) (T := T_Fi) hx hb htb u_Fi hown hK h1 rfl 1 (by decide) (htb _ mw_52) (fun _ h9 => h9) (v := .int (nI as.length)) rfl d_Fi_nth_6 ?_
    refine lv_icmp_ge (tgt := 21) hx hb d_Fi_nth_9 (by decide) (fun _ => ?_) (fun c9 => absurd (ho.resolve_left c1) c9)
    refine lv_null hx hb d_Fi_nth_21 ?_
    exact x_aret hx hb hr (Or.inl ⟨_, rfl⟩) (Or.inl rfl) hlocks rfl (fun q hq => by cases hq) (Nat.le_refl _) (Nat.le_refl _) d_Fi_nth_22
set_option maxHeartbeats 4000000 in
set_option maxRecDepth 100000 in
theorem c_Fi_indexOf (l : Launch) {D : va_G} {A : Nat → ClassId} {H0 : Heap} {M : Nat → Prop} {h r b : Nat} {as : List Nat} {fs : List g_F} {n : g_N} (hf : g_fr D A 5 1 60 h r as H0) (hs : g_fs D A M as fs H0) (hn : g_nm D A M b n H0) : Met l y_Fi_indexOf w_Fi_indexOf { frames := 2, cells := 0, slots := 0, locals := 45 } (x_Pc D A [.ref h, .ref b] H0) (x_Q (some (.int (g_ixv (g_find fs n)))) (fun H1 => H1 = H0)) 0 0 (fun _ => False) := by
  refine Met.ofW (cc := prog_3_method_10_code) (maxL := 3) (ret := (some .int)) (by decide) rfl ?_
  intro p e s m args below meth c s₁ B hml hv
  obtain ⟨rfl, hH, hK, hN⟩ := hv
  obtain ⟨hx, hb, hr, htb, hown, hlocks⟩ := x_start (wd := Cond.code y_Fi_indexOf prog_3_method_10_code 3 (some .int)) B
  have hl := lv_entry ([.ref h, .ref b]) (n := 3) (Nat.le_of_ble_eq_true rfl)
  rw [lg_entry_eq]
  generalize (lg_sl ([.ref h, .ref b]) ++ List.replicate (3 - (lg_sl ([.ref h, .ref b])).length) Slot.unset).toArray = ls at hl ⊢
  have hl : lv_has ls 3 [(0, .ref h), (1, .ref b)] := hl
  rw [hH]
  obtain ⟨g, h1, h2, h3, h4⟩ := hf
  obtain ⟨pb, hn1, hn2, hn3⟩ := id hn
  refine lv_iconst (v := 0) hx hb d_Fi_indexOf_0 (by decide) ?_
  refine lv_istore_n (lv' := [(2, .int 0), (0, .ref h), (1, .ref b)]) hx hb d_Fi_indexOf_1 rfl hl (by decide) rfl (fun ls hl => ?_)
  refine x_loop (σ := Nat × Array Slot) (fun z => F0 m 2 z.2 []) (fun _ => H0) (fun _ => []) (fun z => z.1 ≤ as.length ∧ (∀ (j : Nat) (f : g_F), j < z.1 → fs[j]? = some f → ¬ g_no n f.1 = 0) ∧ lv_has z.2 3 [(2, .int (nI z.1)), (0, .ref h), (1, .ref b)]) (fun z => as.length - z.1) (s0 := (0, ls)) ⟨Nat.zero_le _, fun j f q => absurd q (Nat.not_lt_zero j), hl⟩ ?_
  rintro ⟨i, ls⟩ ⟨hi, hno, hl⟩ ih
  dsimp only at hi hno hl ih ⊢
  refine lv_iload_n hx hb d_Fi_indexOf_2 rfl (lv_at hl 0 rfl) ?_
  refine lv_aload_n hx hb d_Fi_indexOf_3 rfl (lv_at hl 1 rfl) ?_
  refine x_get (ci := 5) (T := T_Fi) hx hb htb u_Fi hown hK h1 rfl 1 (by decide) (htb _ mw_52) (fun _ h9 => h9) (v := .int (nI as.length)) rfl d_Fi_indexOf_4 ?_
  refine lv_icmp_ge (tgt := 43) hx hb d_Fi_indexOf_7 (by decide) (fun c1 => ?_) (fun c1 => ?_)
  · have e : i = as.length := Nat.le_antisymm hi (Nat.le_of_not_lt fun q => absurd c1 (nI_ge q (by omega)))
    refine lv_iconst (v := (-1)) hx hb d_Fi_indexOf_43 (by decide) ?_
    exact x_iret hx hb hr hlocks (by rw [g_find_none (fun j f q => hno j f (by rw [e, hs.1]; exact q))]; rfl) rfl (fun q hq => by cases hq) (Nat.le_refl _) (Nat.le_refl _) d_Fi_indexOf_44
  · have hlt : i < as.length := Nat.lt_of_not_le fun q => absurd (nI_le q (by omega)) c1
    obtain ⟨a, ha⟩ := g_ex hlt
    obtain ⟨f, hff⟩ := g_ex (as := fs) (j := i) (by rw [← hs.1]; exact hlt)
    obtain ⟨na, ca, f1, f2, f3, f4⟩ := hs.2 i a f ha hff
    refine lv_aload_n hx hb d_Fi_indexOf_10 rfl (lv_at hl 1 rfl) ?_
    refine x_get (ci := 5) (T := T_Fi) hx hb htb u_Fi hown hK h1 rfl 0 (by decide) (htb _ mw_51) (fun _ h9 => h9) (v := .ref r) rfl d_Fi_indexOf_11 ?_
    refine lv_iload_n hx hb d_Fi_indexOf_14 rfl (lv_at hl 0 rfl) ?_
    refine x_aldq hx hb hK 1 h2 rfl (vp_in_nI (by omega) (by omega)) (r := .ref a) (by rw [nI_clamp (by omega), h3 i a ha]; rfl) d_Fi_indexOf_15 ?_
    refine lv_ifnull hx hb d_Fi_indexOf_16 ?_
    refine lv_aload_n hx hb d_Fi_indexOf_19 rfl (lv_at hl 2 rfl) ?_
    refine lv_aload_n hx hb d_Fi_indexOf_20 rfl (lv_at hl 1 rfl) ?_
    refine x_get (ci := 5) (T := T_Fi) hx hb htb u_Fi hown hK h1 rfl 0 (by decide) (htb _ mw_51) (fun _ h9 => h9) (v := .ref r) rfl d_Fi_indexOf_21 ?_
    refine lv_iload_n hx hb d_Fi_indexOf_24 rfl (lv_at hl 0 rfl) ?_
    refine x_aldq hx hb hK 1 h2 rfl (vp_in_nI (by omega) (by omega)) (r := .ref a) (by rw [nI_clamp (by omega), h3 i a ha]; rfl) d_Fi_indexOf_25 ?_
    refine x_getN (ci := 2) (T := T_Sf) hx hb htb u_Sf hown hK f1 rfl 0 (by decide) (va_Nw.use rfl (hN.1 _ nf_385)) (fun _ h9 => h9) (v := .ref na) rfl d_Fi_indexOf_26 ?_
    refine x_callP (va_runV (As := [.ref na]) (rest := []) ⟨hx, hb, hml, hown, htb⟩ (c_Nm_order l hn f3) (x_cV 1 htb mw_162 mw_15 mw_165 mw_163 mw_164 rfl rfl (by decide +kernel) ⟨Nat.le_of_ble_eq_true rfl, Nat.le_of_ble_eq_true rfl⟩) (x_preV hK hN hn1 rfl) rfl rfl hl.1 rfl (lv_room (Nat.le_of_ble_eq_true rfl)) d_Fi_indexOf_29 ⟨Nat.le_of_ble_eq_true rfl, Nat.le_of_ble_eq_true rfl⟩) ?_
    refine W.eq (g2 := F0 m 32 ls [.int (g_no n f.1)]) rfl ?_
    refine lv_if_ne (tgt := 37) hx hb d_Fi_indexOf_32 (by decide) (fun c2 => ?_) (fun c2 => ?_)
    · refine lv_iinc (v := nI (i + 1)) (lv' := [(2, .int (nI (i + 1))), (0, .ref h), (1, .ref b)]) hx hb d_Fi_indexOf_37 hl (k := 0) rfl (nI_1 i) (by decide) rfl (fun ls hl => ?_)
      refine lv_goto (tgt := 2) hx hb d_Fi_indexOf_40 (by decide) ?_
      refine ih (i + 1, ls) ⟨hlt, fun j f' q q2 => ?_, (lv_sub hl [0, 1, 2] rfl)⟩ (by show as.length - (i + 1) < as.length - i; omega)
      rcases Nat.lt_succ_iff_lt_or_eq.mp q with q | q
      · exact hno j f' q q2
      · subst q
        rw [hff] at q2
        cases q2
        exact c2
    · refine lv_iload_n hx hb d_Fi_indexOf_35 rfl (lv_at hl 0 rfl) ?_
      exact x_iret hx hb hr hlocks (by rw [g_find_some hno hff c2]; rfl) rfl (fun q hq => by cases hq) (Nat.le_refl _) (Nat.le_refl _) d_Fi_indexOf_36
