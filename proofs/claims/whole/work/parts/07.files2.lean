/-! FILES: find, count, copy, remove, insert, apply -/
def g_cnt (fs : List g_F) (x : Int32) : Nat := fs.countP (fun f => decide (f.1.1 = x))
def g_rem (fs : List g_F) (n : g_N) : List g_F := match g_find fs n with
  | some i => fs.eraseIdx i
  | none => fs
def g_pos (fs : List g_F) (n : g_N) : Nat → Nat
  | 0 => 0
  | k + 1 => match fs[k]? with
    | some e => if g_no n e.1 < 0 then g_pos fs n k else k + 1
    | none => k + 1
def g_ins (fs : List g_F) (f : g_F) : List g_F := if 60 ≤ fs.length then fs else fs.insertIdx (g_pos fs f.1 fs.length) f
def g_ap (fs : List g_F) (o : g_O) : List g_F := match o.2 with
  | none => g_rem fs o.1
  | some f => g_ins (g_rem (g_rem fs o.1) f.1) f
theorem x_but2.at {D : va_G} {a b q : Nat} {e : va_E} {H H1 : Heap} (h : x_but2 a b H H1) (hq : va_at D x_cl (q, e) H) (h1 : q ≠ a) (h2 : q ≠ b) : va_at D x_cl (q, e) H1 := hq.kept (h.2 q h1 h2)
theorem g_find_lt {fs : List g_F} {n : g_N} {i : Nat} (h : g_find fs n = some i) : i < fs.length := (List.findIdx?_eq_some_iff_getElem.mp h).1
theorem g_take {α : Type} {fs : List α} {i : Nat} {f : α} (h : fs[i]? = some f) : fs.take (i + 1) = fs.take i ++ [f] := by
  rw [List.take_add_one, h]
  rfl
theorem g_cnt_le (fs : List g_F) (x : Int32) (i : Nat) : (fs.take i).countP (fun f => decide (f.1.1 = x)) ≤ fs.length := Nat.le_trans List.countP_le_length (by rw [List.length_take]; omega)
theorem g_pos_le (fs : List g_F) (n : g_N) : ∀ k, g_pos fs n k ≤ k
  | 0 => Nat.le_refl _
  | k + 1 => by
    show (match fs[k]? with | some e => if g_no n e.1 < 0 then g_pos fs n k else k + 1 | none => k + 1) ≤ k + 1
    have ih := g_pos_le fs n k
    split
    · split
      · omega
      · exact Nat.le_refl _
    · exact Nat.le_refl _
theorem g_pos_step {fs : List g_F} {n : g_N} {k : Nat} {e : g_F} (h : fs[k]? = some e) (hn : g_no n e.1 < 0) : g_pos fs n (k + 1) = g_pos fs n k := by
  show (match fs[k]? with | some e => if g_no n e.1 < 0 then g_pos fs n k else k + 1 | none => k + 1) = _
  rw [h]
  exact if_pos hn
theorem g_pos_stop {fs : List g_F} {n : g_N} {k : Nat} {e : g_F} (h : fs[k]? = some e) (hn : ¬ g_no n e.1 < 0) : g_pos fs n (k + 1) = k + 1 := by
  show (match fs[k]? with | some e => if g_no n e.1 < 0 then g_pos fs n k else k + 1 | none => k + 1) = _
  rw [h]
  exact if_neg hn
theorem g_fs.erase {D : va_G} {A : Nat → ClassId} {M : Nat → Prop} {as : List Nat} {fs : List g_F} {H : Heap} (h : g_fs D A M as fs H) (i : Nat) : g_fs D A M (as.eraseIdx i) (fs.eraseIdx i) H := by
  refine ⟨by rw [List.length_eraseIdx, List.length_eraseIdx, h.1], fun j a f h1 h2 => ?_⟩
  rw [List.getElem?_eraseIdx] at h1 h2
  split at h1
  · rename_i hj
    rw [if_pos hj] at h2
    exact h.2 j a f h1 h2
  · rename_i hj
    rw [if_neg hj] at h2
    exact h.2 (j + 1) a f h1 h2
theorem g_insIdx {α : Type} {as : List α} {i j : Nat} {a b : α} (hi : i ≤ as.length) (h : (as.insertIdx i a)[j]? = some b) : (j < i ∧ as[j]? = some b) ∨ (j = i ∧ b = a) ∨ (i < j ∧ as[j - 1]? = some b) := by
  rcases Nat.lt_trichotomy j i with q | q | q
  · rw [List.getElem?_insertIdx_of_lt q] at h
    exact Or.inl ⟨q, h⟩
  · subst q
    rw [List.getElem?_insertIdx_self, if_pos hi] at h
    exact Or.inr (Or.inl ⟨rfl, (Option.some.inj h).symm⟩)
  · rw [List.getElem?_insertIdx_of_gt q] at h
    exact Or.inr (Or.inr ⟨q, h⟩)
theorem g_fs.ins {D : va_G} {A : Nat → ClassId} {M : Nat → Prop} {as : List Nat} {fs : List g_F} {H : Heap} {a : Nat} {f : g_F} {i : Nat} (h : g_fs D A M as fs H) (hf : g_sf D A M a f H) (hi : i ≤ as.length) : g_fs D A M (as.insertIdx i a) (fs.insertIdx i f) H := by
  refine ⟨by rw [List.length_insertIdx, List.length_insertIdx, h.1], fun j b e h1 h2 => ?_⟩
  rcases g_insIdx hi h1 with ⟨q, q1⟩ | ⟨q, q1⟩ | ⟨q, q1⟩ <;> rcases g_insIdx (by rw [← h.1]; exact hi) h2 with ⟨w, w1⟩ | ⟨w, w1⟩ | ⟨w, w1⟩ <;> first | omega | skip
  · exact h.2 j b e q1 w1
  · rw [q1, w1]; exact hf
  · exact h.2 (j - 1) b e q1 w1
set_option maxHeartbeats 4000000 in
set_option maxRecDepth 100000 in
theorem c_Fi_find (l : Launch) {D : va_G} {A : Nat → ClassId} {H0 : Heap} {M : Nat → Prop} {h r b : Nat} {as : List Nat} {fs : List g_F} {n : g_N} (hf : g_fr D A 5 1 60 h r as H0) (hs : g_fs D A M as fs H0) (hn : g_nm D A M b n H0) {j a : Nat} (hj : g_find fs n = some j) (ha : as[j]? = some a) : Met l y_Fi_find w_Fi_find { frames := 3, cells := 0, slots := 0, locals := 67 } (x_Pc D A [.ref h, .ref b] H0) (x_Q (some (.ref a)) (fun H1 => H1 = H0)) 0 0 (fun _ => False) := by
  refine Met.ofW (cc := prog_3_method_4_code) (maxL := 2) (ret := (some (.object "BreakingDisk$StoredFile"))) (by decide) rfl ?_
  intro p e s m args below meth c s₁ B hml hv
  obtain ⟨rfl, hH, hK, hN⟩ := hv
  obtain ⟨hx, hb, hr, htb, hown, hlocks⟩ := x_start (wd := Cond.code y_Fi_find prog_3_method_4_code 2 (some (.object "BreakingDisk$StoredFile"))) B
  have hl := lv_entry ([.ref h, .ref b]) (n := 2) (Nat.le_of_ble_eq_true rfl)
  rw [lg_entry_eq]
  generalize (lg_sl ([.ref h, .ref b]) ++ List.replicate (2 - (lg_sl ([.ref h, .ref b])).length) Slot.unset).toArray = ls at hl ⊢
  have hl : lv_has ls 2 [(0, .ref h), (1, .ref b)] := hl
  rw [hH]
  obtain ⟨g, h1, h2, h3, h4⟩ := id hf
  refine lv_aload_n hx hb d_Fi_find_0 rfl (lv_at hl 0 rfl) ?_
  refine lv_aload_n hx hb d_Fi_find_1 rfl (lv_at hl 0 rfl) ?_
  refine lv_aload_n hx hb d_Fi_find_2 rfl (lv_at hl 1 rfl) ?_
  refine x_callP (va_runV (As := [.ref b]) (rest := [.ref h]) ⟨hx, hb, hml, hown, htb⟩ (c_Fi_indexOf l hf hs hn) (x_cV 1 htb mw_158 mw_3 mw_161 mw_160 ms_1 rfl rfl (by decide +kernel) ⟨Nat.le_of_ble_eq_true rfl, Nat.le_of_ble_eq_true rfl⟩) (x_preV hK hN h1 rfl) rfl rfl hl.1 rfl (lv_room (Nat.le_of_ble_eq_true rfl)) d_Fi_find_3 ⟨Nat.le_of_ble_eq_true rfl, Nat.le_of_ble_eq_true rfl⟩) ?_
  refine W.eq (g2 := F0 m 6 ls [.int (g_ixv (g_find fs n)), .ref h]) rfl ?_
  refine x_top (y := nI j) (congrArg g_ixv hj) ?_
  refine x_callP (va_runV (As := [.int (nI j)]) (rest := []) ⟨hx, hb, hml, hown, htb⟩ (c_Fi_nth l hf ha) (x_cV 1 htb mw_173 mw_3 mw_176 mw_174 mw_175 rfl rfl (by decide +kernel) ⟨Nat.le_of_ble_eq_true rfl, Nat.le_of_ble_eq_true rfl⟩) (x_preV hK hN h1 rfl) rfl rfl hl.1 rfl (lv_room (Nat.le_of_ble_eq_true rfl)) d_Fi_find_6 ⟨Nat.le_of_ble_eq_true rfl, Nat.le_of_ble_eq_true rfl⟩) ?_
  refine W.eq (g2 := F0 m 9 ls [.ref a]) rfl ?_
  exact x_aret hx hb hr (Or.inl ⟨_, rfl⟩) (Or.inr ⟨_, rfl⟩) hlocks rfl (fun q hq => by cases hq) (Nat.le_refl _) (Nat.le_refl _) d_Fi_find_9
set_option maxHeartbeats 4000000 in
set_option maxRecDepth 100000 in
theorem c_Fi_findN (l : Launch) {D : va_G} {A : Nat → ClassId} {H0 : Heap} {M : Nat → Prop} {h r b : Nat} {as : List Nat} {fs : List g_F} {n : g_N} (hf : g_fr D A 5 1 60 h r as H0) (hs : g_fs D A M as fs H0) (hn : g_nm D A M b n H0) (hj : g_find fs n = none) : Met l y_Fi_find w_Fi_find { frames := 3, cells := 0, slots := 0, locals := 67 } (x_Pc D A [.ref h, .ref b] H0) (x_Q (some (.null)) (fun H1 => H1 = H0)) 0 0 (fun _ => False) := by
  refine Met.ofW (cc := prog_3_method_4_code) (maxL := 2) (ret := (some (.object "BreakingDisk$StoredFile"))) (by decide) rfl ?_
  intro p e s m args below meth c s₁ B hml hv
  obtain ⟨rfl, hH, hK, hN⟩ := hv
  obtain ⟨hx, hb, hr, htb, hown, hlocks⟩ := x_start (wd := Cond.code y_Fi_find prog_3_method_4_code 2 (some (.object "BreakingDisk$StoredFile"))) B
  have hl := lv_entry ([.ref h, .ref b]) (n := 2) (Nat.le_of_ble_eq_true rfl)
  rw [lg_entry_eq]
  generalize (lg_sl ([.ref h, .ref b]) ++ List.replicate (2 - (lg_sl ([.ref h, .ref b])).length) Slot.unset).toArray = ls at hl ⊢
  have hl : lv_has ls 2 [(0, .ref h), (1, .ref b)] := hl
  rw [hH]
  obtain ⟨g, h1, h2, h3, h4⟩ := id hf
  refine lv_aload_n hx hb d_Fi_find_0 rfl (lv_at hl 0 rfl) ?_
  refine lv_aload_n hx hb d_Fi_find_1 rfl (lv_at hl 0 rfl) ?_
  refine lv_aload_n hx hb d_Fi_find_2 rfl (lv_at hl 1 rfl) ?_
  refine x_callP (va_runV (As := [.ref b]) (rest := [.ref h]) ⟨hx, hb, hml, hown, htb⟩ (c_Fi_indexOf l hf hs hn) (x_cV 1 htb mw_158 mw_3 mw_161 mw_160 ms_1 rfl rfl (by decide +kernel) ⟨Nat.le_of_ble_eq_true rfl, Nat.le_of_ble_eq_true rfl⟩) (x_preV hK hN h1 rfl) rfl rfl hl.1 rfl (lv_room (Nat.le_of_ble_eq_true rfl)) d_Fi_find_3 ⟨Nat.le_of_ble_eq_true rfl, Nat.le_of_ble_eq_true rfl⟩) ?_
  refine W.eq (g2 := F0 m 6 ls [.int (g_ixv (g_find fs n)), .ref h]) rfl ?_
  refine x_top (y := (-1)) (congrArg g_ixv hj) ?_
  refine x_callP (va_runV (As := [.int (-1)]) (rest := []) ⟨hx, hb, hml, hown, htb⟩ (c_Fi_nthN l hf (Or.inl (by decide))) (x_cV 1 htb mw_173 mw_3 mw_176 mw_174 mw_175 rfl rfl (by decide +kernel) ⟨Nat.le_of_ble_eq_true rfl, Nat.le_of_ble_eq_true rfl⟩) (x_preV hK hN h1 rfl) rfl rfl hl.1 rfl (lv_room (Nat.le_of_ble_eq_true rfl)) d_Fi_find_6 ⟨Nat.le_of_ble_eq_true rfl, Nat.le_of_ble_eq_true rfl⟩) ?_
  refine W.eq (g2 := F0 m 9 ls [.null]) rfl ?_
  exact x_aret hx hb hr (Or.inl ⟨_, rfl⟩) (Or.inl rfl) hlocks rfl (fun q hq => by cases hq) (Nat.le_refl _) (Nat.le_refl _) d_Fi_find_9
set_option maxHeartbeats 4000000 in
set_option maxRecDepth 100000 in
theorem c_Fi_countOfSort (l : Launch) {D : va_G} {A : Nat → ClassId} {H0 : Heap} {M : Nat → Prop} {h r : Nat} {as : List Nat} {fs : List g_F} (hf : g_fr D A 5 1 60 h r as H0) (hs : g_fs D A M as fs H0) (x : Int32) : Met l y_Fi_countOfSort w_Fi_countOfSort { frames := 1, cells := 0, slots := 0, locals := 21 } (x_Pc D A [.ref h, .int x] H0) (x_Q (some (.int (nI (g_cnt fs x)))) (fun H1 => H1 = H0)) 0 0 (fun _ => False) := by
  refine Met.ofW (cc := prog_3_method_5_code) (maxL := 4) (ret := (some .int)) (by decide) rfl ?_
  intro p e s m args below meth c s₁ B hml hv
  obtain ⟨rfl, hH, hK, hN⟩ := hv
  obtain ⟨hx, hb, hr, htb, hown, hlocks⟩ := x_start (wd := Cond.code y_Fi_countOfSort prog_3_method_5_code 4 (some .int)) B
  have hl := lv_entry ([.ref h, .int x]) (n := 4) (Nat.le_of_ble_eq_true rfl)
  rw [lg_entry_eq]
  generalize (lg_sl ([.ref h, .int x]) ++ List.replicate (4 - (lg_sl ([.ref h, .int x])).length) Slot.unset).toArray = ls at hl ⊢
  have hl : lv_has ls 4 [(0, .ref h), (1, .int x)] := hl
  rw [hH]
  obtain ⟨g, h1, h2, h3, h4⟩ := hf
  refine lv_iconst (v := 0) hx hb d_Fi_countOfSort_0 (by decide) ?_
  refine lv_istore_n (lv' := [(2, .int 0), (0, .ref h), (1, .int x)]) hx hb d_Fi_countOfSort_1 rfl hl (by decide) rfl (fun ls hl => ?_)
  refine lv_iconst (v := 0) hx hb d_Fi_countOfSort_2 (by decide) ?_
  refine lv_istore_n (lv' := [(3, .int 0), (2, .int 0), (0, .ref h), (1, .int x)]) hx hb d_Fi_countOfSort_3 rfl hl (by decide) rfl (fun ls hl => ?_)
  refine x_loop (σ := Nat × Array Slot) (fun z => F0 m 4 z.2 []) (fun _ => H0) (fun _ => []) (fun z => z.1 ≤ as.length ∧ lv_has z.2 4 [(3, .int (nI z.1)), (2, .int (nI ((fs.take z.1).countP (fun f => decide (f.1.1 = x))))), (0, .ref h), (1, .int x)]) (fun z => as.length - z.1) (s0 := (0, ls)) ⟨Nat.zero_le _, hl⟩ ?_
  rintro ⟨i, ls⟩ ⟨hi, hl⟩ ih
  dsimp only at hi hl ih ⊢
  have hcl := g_cnt_le fs x i
  have hsl := hs.1
  refine lv_iload_n hx hb d_Fi_countOfSort_4 rfl (lv_at hl 0 rfl) ?_
  refine lv_aload_n hx hb d_Fi_countOfSort_5 rfl (lv_at hl 2 rfl) ?_
  refine x_get (ci := 5) (T := T_Fi) hx hb htb u_Fi hown hK h1 rfl 1 (by decide) (htb _ mw_52) (fun _ h9 => h9) (v := .int (nI as.length)) rfl d_Fi_countOfSort_6 ?_
  refine lv_icmp_ge (tgt := 34) hx hb d_Fi_countOfSort_9 (by decide) (fun c1 => ?_) (fun c1 => ?_)
  · have e : i = as.length := Nat.le_antisymm hi (Nat.le_of_not_lt fun q => absurd c1 (nI_ge q (by omega)))
    refine lv_iload_n hx hb d_Fi_countOfSort_34 rfl (lv_at hl 1 rfl) ?_
    exact x_iret hx hb hr hlocks (by rw [e, hs.1, List.take_length]; rfl) rfl (fun q hq => by cases hq) (Nat.le_refl _) (Nat.le_refl _) d_Fi_countOfSort_35
  · have hlt : i < as.length := Nat.lt_of_not_le fun q => absurd (nI_le q (by omega)) c1
    obtain ⟨a, ha⟩ := g_ex hlt
    obtain ⟨f, hff⟩ := g_ex (as := fs) (j := i) (by rw [← hs.1]; exact hlt)
    have htk := g_take hff
    refine lv_aload_n hx hb d_Fi_countOfSort_12 rfl (lv_at hl 2 rfl) ?_
    refine x_get (ci := 5) (T := T_Fi) hx hb htb u_Fi hown hK h1 rfl 0 (by decide) (htb _ mw_51) (fun _ h9 => h9) (v := .ref r) rfl d_Fi_countOfSort_13 ?_
    refine lv_iload_n hx hb d_Fi_countOfSort_16 rfl (lv_at hl 0 rfl) ?_
    refine x_aldq hx hb hK 1 h2 rfl (vp_in_nI (by omega) (by omega)) (r := .ref a) (by rw [nI_clamp (by omega), h3 i a ha]; rfl) d_Fi_countOfSort_17 ?_
    refine lv_iload_n hx hb d_Fi_countOfSort_18 rfl (lv_at hl 3 rfl) ?_
    refine x_callP (va_runS (As := [.ref a, .int x]) (rest := []) ⟨hx, hb, hml, hown, htb⟩ (c_Fi_isOfSort l (hs.2 i a f ha hff) x) (x_cS 2 htb mw_200 mw_3 mw_202 mw_201 rfl rfl (by decide +kernel) ⟨Nat.le_of_ble_eq_true rfl, Nat.le_of_ble_eq_true rfl⟩) (x_preS hK hN) rfl rfl hl.1 rfl (lv_room (Nat.le_of_ble_eq_true rfl)) d_Fi_countOfSort_19 ⟨Nat.le_of_ble_eq_true rfl, Nat.le_of_ble_eq_true rfl⟩) ?_
    refine W.eq (g2 := F0 m 22 ls [.int (if f.1.1 = x then 1 else 0)]) rfl ?_
    refine lv_if_eq (tgt := 28) hx hb d_Fi_countOfSort_22 (by decide) (fun c0 => ?_) (fun c0 => ?_)
    · have c2 : ¬ f.1.1 = x := fun q => by rw [if_pos q] at c0; exact absurd c0 (by decide)
      refine lv_iinc (v := nI (i + 1)) (lv' := [(3, .int (nI (i + 1))), (2, .int (nI ((fs.take i).countP (fun f => decide (f.1.1 = x))))), (0, .ref h), (1, .int x)]) hx hb d_Fi_countOfSort_28 hl (k := 0) rfl (nI_1 i) (by decide) rfl (fun ls hl => ?_)
      refine lv_goto (tgt := 4) hx hb d_Fi_countOfSort_31 (by decide) ?_
      have e2 : (fs.take (i + 1)).countP (fun f => decide (f.1.1 = x)) = (fs.take i).countP (fun f => decide (f.1.1 = x)) := by rw [htk, List.countP_append, List.countP_singleton, if_neg (by simpa using c2), Nat.add_zero]
      rw [← e2] at hl
      exact ih (i + 1, ls) ⟨hlt, (lv_sub hl [0, 1, 2, 3] rfl)⟩ (by show as.length - (i + 1) < as.length - i; omega)
    · have c2 : f.1.1 = x := Decidable.byContradiction fun q => c0 (if_neg q)
      refine lv_iinc (v := nI ((fs.take i).countP (fun f => decide (f.1.1 = x)) + 1)) (lv' := [(2, .int (nI ((fs.take i).countP (fun f => decide (f.1.1 = x)) + 1))), (3, .int (nI i)), (0, .ref h), (1, .int x)]) hx hb d_Fi_countOfSort_25 hl (k := 1) rfl (nI_1 _) (by decide) rfl (fun ls hl => ?_)
      refine lv_iinc (v := nI (i + 1)) (lv' := [(3, .int (nI (i + 1))), (2, .int (nI ((fs.take i).countP (fun f => decide (f.1.1 = x)) + 1))), (0, .ref h), (1, .int x)]) hx hb d_Fi_countOfSort_28 hl (k := 1) rfl (nI_1 i) (by decide) rfl (fun ls hl => ?_)
      refine lv_goto (tgt := 4) hx hb d_Fi_countOfSort_31 (by decide) ?_
      have e2 : (fs.take (i + 1)).countP (fun f => decide (f.1.1 = x)) = (fs.take i).countP (fun f => decide (f.1.1 = x)) + 1 := by rw [htk, List.countP_append, List.countP_singleton, if_pos (by simpa using c2)]
      rw [← e2] at hl
      exact ih (i + 1, ls) ⟨hlt, (lv_sub hl [0, 1, 2, 3] rfl)⟩ (by show as.length - (i + 1) < as.length - i; omega)
set_option maxHeartbeats 4000000 in
set_option maxRecDepth 100000 in
theorem c_Fi_copyFrom (l : Launch) {D : va_G} {A : Nat → ClassId} {H0 : Heap} {M : Nat → Prop} {h r h2 r2 : Nat} {as bs : List Nat} {fs : List g_F} (hf : g_fr D A 5 1 60 h r as H0) (hg : g_fr D A 5 1 60 h2 r2 bs H0) (hs : g_fs D A M bs fs H0) (hM1 : M h) (hM2 : M r) (n1 : h ≠ r) (n2 : h2 ≠ h) (n3 : h2 ≠ r) (n4 : r2 ≠ h) (n5 : r2 ≠ r) : Met l y_Fi_copyFrom w_Fi_copyFrom { frames := 0, cells := 0, slots := 0, locals := 0 } (x_Pc D A [.ref h, .ref h2] H0) (x_Q none (fun H1 => g_fr D A 5 1 60 h r bs H1 ∧ x_but2 h r H0 H1)) 0 0 (fun q : Nat => q = h ∨ q = r) := by
  refine Met.ofW (cc := prog_3_method_7_code) (maxL := 3) (ret := none) (by decide) rfl ?_
  intro p e s m args below meth c s₁ B hml hv
  obtain ⟨rfl, hH, hK, hN⟩ := hv
  obtain ⟨hx, hb, hr, htb, hown, hlocks⟩ := x_start (wd := Cond.code y_Fi_copyFrom prog_3_method_7_code 3 none) B
  have hl := lv_entry ([.ref h, .ref h2]) (n := 3) (Nat.le_of_ble_eq_true rfl)
  rw [lg_entry_eq]
  generalize (lg_sl ([.ref h, .ref h2]) ++ List.replicate (3 - (lg_sl ([.ref h, .ref h2])).length) Slot.unset).toArray = ls at hl ⊢
  have hl : lv_has ls 3 [(0, .ref h), (1, .ref h2)] := hl
  rw [hH]
  obtain ⟨g, h1, h2a, h3, h4⟩ := hf
  obtain ⟨g2, k1, k2, k3, k4⟩ := hg
  have hL : ∀ q ∈ ([] : List Loc), (fun q : Nat => q = h ∨ q = r) q.base := fun q hq => by cases hq
  refine lv_aload_n hx hb d_Fi_copyFrom_0 rfl (lv_at hl 0 rfl) ?_
  refine lv_aload_n hx hb d_Fi_copyFrom_1 rfl (lv_at hl 1 rfl) ?_
  refine x_get (ci := 5) (T := T_Fi) hx hb htb u_Fi hown hK k1 rfl 1 (by decide) (htb _ mw_52) (fun _ h9 => h9) (v := .int (nI bs.length)) rfl d_Fi_copyFrom_2 ?_
  refine x_put (F := fun q : Nat => q = h ∨ q = r) (ci := 5) (v := .int (nI bs.length)) (ty := .int) (T := T_Fi) hx hb htb u_Fi t_Fi t_Fi_ok n_Fi hown hK h1 hL (Or.inl rfl) rfl 1 (by decide) (htb _ mw_52) (fun _ h9 => h9) rfl (by decide +kernel) rfl rfl (Nat.le_of_ble_eq_true rfl) d_Fi_copyFrom_5 (fun H1 locs q1 hc1 hL => ?_)
  have q1 : va_at D x_cl (h, .inr (5, [.ref r, .int (nI bs.length)])) H1 := q1
  have q2 := hc1.at h2a n1.symm
  have hb0 : x_but2 h r H0 H1 := x_but2.l hc1
  refine lv_iconst (v := 0) hx hb d_Fi_copyFrom_8 (by decide) ?_
  refine lv_istore_n (lv' := [(2, .int 0), (0, .ref h), (1, .ref h2)]) hx hb d_Fi_copyFrom_9 rfl hl (by decide) rfl (fun ls hl => ?_)
  refine x_loop (σ := Nat × (Nat → Option Nat) × Heap × List Loc × Array Slot) (fun z => F0 m 10 z.2.2.2.2 []) (fun z => z.2.2.1) (fun z => z.2.2.2.1) (fun z => z.1 ≤ bs.length ∧ va_at D x_cl (h, .inr (5, [.ref r, .int (nI bs.length)])) z.2.2.1 ∧ va_at D x_cl (r, .inl (A 1, 60, .inr (.inr (.inr (.inr z.2.1))))) z.2.2.1 ∧ (∀ (j a : Nat), j < z.1 → bs[j]? = some a → z.2.1 j = some a) ∧ x_but2 h r H0 z.2.2.1 ∧ (∀ q ∈ z.2.2.2.1, (fun q : Nat => q = h ∨ q = r) q.base) ∧ lv_has z.2.2.2.2 3 [(2, .int (nI z.1)), (0, .ref h), (1, .ref h2)]) (fun z => bs.length - z.1) (s0 := (0, g, H1, locs, ls)) ⟨Nat.zero_le _, q1, q2, fun j a q => absurd q (Nat.not_lt_zero j), hb0, hL, hl⟩ ?_
  rintro ⟨i, g, H, locs, ls⟩ ⟨hi, p1, p2, p3, hb2, hL, hl⟩ ih
  dsimp only at hi p1 p2 p3 hb2 hL hl ih ⊢
  have k1 := hb2.at k1 n2 n3
  have k2 := hb2.at k2 n4 n5
  refine lv_iload_n hx hb d_Fi_copyFrom_10 rfl (lv_at hl 0 rfl) ?_
  refine lv_aload_n hx hb d_Fi_copyFrom_11 rfl (lv_at hl 1 rfl) ?_
  refine x_get (ci := 5) (T := T_Fi) hx hb htb u_Fi hown hK p1 rfl 1 (by decide) (htb _ mw_52) (fun _ h9 => h9) (v := .int (nI bs.length)) rfl d_Fi_copyFrom_12 ?_
  refine lv_icmp_ge (tgt := 36) hx hb d_Fi_copyFrom_15 (by decide) (fun c1 => ?_) (fun c1 => ?_)
  · have e : i = bs.length := Nat.le_antisymm hi (Nat.le_of_not_lt fun q => absurd c1 (nI_ge q (by omega)))
    exact x_vret hx hb hr hlocks ⟨⟨g, p1, p2, fun j a q => p3 j a (by rw [e]; exact (List.getElem?_eq_some_iff.mp q).1) q, k4⟩, hb2⟩ hL (Nat.le_refl _) (Nat.le_refl _) d_Fi_copyFrom_36
  · have hlt : i < bs.length := Nat.lt_of_not_le fun q => absurd (nI_le q (by omega)) c1
    obtain ⟨a, ha⟩ := g_ex hlt
    obtain ⟨f, hff⟩ := g_ex (as := fs) (j := i) (by rw [← hs.1]; exact hlt)
    obtain ⟨na, ca, f1, f2, f3, f4⟩ := (hs.2 i a f ha hff).kept (hb2.K hM1 hM2)
    refine lv_aload_n hx hb d_Fi_copyFrom_18 rfl (lv_at hl 1 rfl) ?_
    refine x_get (ci := 5) (T := T_Fi) hx hb htb u_Fi hown hK p1 rfl 0 (by decide) (htb _ mw_51) (fun _ h9 => h9) (v := .ref r) rfl d_Fi_copyFrom_19 ?_
    refine lv_iload_n hx hb d_Fi_copyFrom_22 rfl (lv_at hl 0 rfl) ?_
    refine lv_aload_n hx hb d_Fi_copyFrom_23 rfl (lv_at hl 2 rfl) ?_
    refine x_get (ci := 5) (T := T_Fi) hx hb htb u_Fi hown hK k1 rfl 0 (by decide) (htb _ mw_51) (fun _ h9 => h9) (v := .ref r2) rfl d_Fi_copyFrom_24 ?_
    refine lv_iload_n hx hb d_Fi_copyFrom_27 rfl (lv_at hl 0 rfl) ?_
    refine x_aldq hx hb hK 1 k2 rfl (vp_in_nI (by omega) (by omega)) (r := .ref a) (by rw [nI_clamp (by omega), k3 i a ha]; rfl) d_Fi_copyFrom_28 ?_
    refine x_astq (F := fun q : Nat => q = h ∨ q = r) hx hb hK 1 2 p2 hL (Or.inr rfl) rfl f1 rfl (vp_in_nI (by omega) (by omega)) d_Fi_copyFrom_29 (fun H3 locs p2 hm3 hL => ?_)
    refine lv_iinc (v := nI (i + 1)) (lv' := [(2, .int (nI (i + 1))), (0, .ref h), (1, .ref h2)]) hx hb d_Fi_copyFrom_30 hl (k := 0) rfl (nI_1 i) (by decide) rfl (fun ls hl => ?_)
    refine lv_goto (tgt := 10) hx hb d_Fi_copyFrom_33 (by decide) ?_
    refine ih (i + 1, _, H3, locs, ls) ⟨hlt, hm3.at p1 n1, p2, fun j a' q q2 => ?_, hb2.trans (x_but2.r hm3), hL, (lv_sub hl [0, 1, 2] rfl)⟩ (by show bs.length - (i + 1) < bs.length - i; omega)
    show va_up g (nI i).toNatClampNeg (some a) j = some a'
    rw [nI_clamp (by omega)]
    rcases Nat.lt_succ_iff_lt_or_eq.mp q with q | q
    · rw [va_up_ne _ _ (by omega)]; exact p3 j a' q q2
    · subst q; rw [va_up_self, ← ha, q2]
set_option maxHeartbeats 4000000 in
set_option maxRecDepth 100000 in
theorem c_Fi_remove (l : Launch) {D : va_G} {A : Nat → ClassId} {H0 : Heap} {M : Nat → Prop} {h r b : Nat} {as : List Nat} {fs : List g_F} {n : g_N} (hf : g_fr D A 5 1 60 h r as H0) (hs : g_fs D A M as fs H0) (hn : g_nm D A M b n H0) (hM1 : M h) (hM2 : M r) (n1 : h ≠ r) : Met l y_Fi_remove w_Fi_remove { frames := 3, cells := 0, slots := 0, locals := 67 } (x_Pc D A [.ref h, .ref b] H0) (x_Q none (fun H1 => ∃ bs : List Nat, g_fr D A 5 1 60 h r bs H1 ∧ g_fs D A M bs (g_rem fs n) H1 ∧ x_but2 h r H0 H1)) 0 0 (fun q : Nat => q = h ∨ q = r) := by
  refine Met.ofW (cc := prog_3_method_11_code) (maxL := 4) (ret := none) (by decide) rfl ?_
  intro p e s m args below meth c s₁ B hml hv
  obtain ⟨rfl, hH, hK, hN⟩ := hv
  obtain ⟨hx, hb, hr, htb, hown, hlocks⟩ := x_start (wd := Cond.code y_Fi_remove prog_3_method_11_code 4 none) B
  have hl := lv_entry ([.ref h, .ref b]) (n := 4) (Nat.le_of_ble_eq_true rfl)
  rw [lg_entry_eq]
  generalize (lg_sl ([.ref h, .ref b]) ++ List.replicate (4 - (lg_sl ([.ref h, .ref b])).length) Slot.unset).toArray = ls at hl ⊢
  have hl : lv_has ls 4 [(0, .ref h), (1, .ref b)] := hl
  rw [hH]
  obtain ⟨g, h1, h2, h3, h4⟩ := id hf
  have hL : ∀ q ∈ ([] : List Loc), (fun q : Nat => q = h ∨ q = r) q.base := fun q hq => by cases hq
  refine lv_aload_n hx hb d_Fi_remove_0 rfl (lv_at hl 0 rfl) ?_
  refine lv_aload_n hx hb d_Fi_remove_1 rfl (lv_at hl 1 rfl) ?_
  refine x_callP (va_runV (As := [.ref b]) (rest := []) ⟨hx, hb, hml, hown, htb⟩ (c_Fi_indexOf l hf hs hn) (x_cV 1 htb mw_158 mw_3 mw_161 mw_160 ms_1 rfl rfl (by decide +kernel) ⟨Nat.le_of_ble_eq_true rfl, Nat.le_of_ble_eq_true rfl⟩) (x_preV hK hN h1 rfl) rfl rfl hl.1 rfl (lv_room (Nat.le_of_ble_eq_true rfl)) d_Fi_remove_2 ⟨Nat.le_of_ble_eq_true rfl, Nat.le_of_ble_eq_true rfl⟩) ?_
  refine W.eq (g2 := F0 m 5 ls [.int (g_ixv (g_find fs n))]) rfl ?_
  cases hfi : g_find fs n with
  | none =>
    refine x_top (y := (-1)) (rfl) ?_
    refine lv_istore_n (lv' := [(2, .int (-1)), (0, .ref h), (1, .ref b)]) hx hb d_Fi_remove_5 rfl hl (by decide) rfl (fun ls hl => ?_)
    refine lv_iload_n hx hb d_Fi_remove_6 rfl (lv_at hl 0 rfl) ?_
    refine lv_iconst (v := (-1)) hx hb d_Fi_remove_7 (by decide) ?_
    refine lv_icmp_ne (tgt := 12) hx hb d_Fi_remove_8 (by decide) (fun c9 => absurd rfl c9) (fun _ => ?_)
    exact x_vret hx hb hr hlocks ⟨as, hf, by unfold g_rem; rw [hfi]; exact hs, x_but2.refl⟩ hL (Nat.le_refl _) (Nat.le_refl _) d_Fi_remove_11
  | some i =>
    have hi : i < as.length := by rw [hs.1]; exact g_find_lt hfi
    refine x_top (y := nI i) (rfl) ?_
    refine lv_istore_n (lv' := [(2, .int (nI i)), (0, .ref h), (1, .ref b)]) hx hb d_Fi_remove_5 rfl hl (by decide) rfl (fun ls hl => ?_)
    refine lv_iload_n hx hb d_Fi_remove_6 rfl (lv_at hl 0 rfl) ?_
    refine lv_iconst (v := (-1)) hx hb d_Fi_remove_7 (by decide) ?_
    refine lv_icmp_ne (tgt := 12) hx hb d_Fi_remove_8 (by decide) (fun _ => ?_) (fun c9 => absurd c9 (fun q => absurd (q ▸ nI_pos (n := i) (by omega)) (by decide)))
    refine lv_aload_n hx hb d_Fi_remove_12 rfl (lv_at hl 1 rfl) ?_
    refine lv_dup hx hb d_Fi_remove_13 rfl ?_
    refine x_get (ci := 5) (T := T_Fi) hx hb htb u_Fi hown hK h1 rfl 1 (by decide) (htb _ mw_52) (fun _ h9 => h9) (v := .int (nI as.length)) rfl d_Fi_remove_14 ?_
    refine lv_iconst (v := 1) hx hb d_Fi_remove_17 (by decide) ?_
    refine lv_isub hx hb d_Fi_remove_18 ?_
    refine x_top (y := nI (as.length - 1)) (pk_sub (a := as.length) (b := 1) (by omega)) ?_
    refine x_put (F := fun q : Nat => q = h ∨ q = r) (ci := 5) (v := .int (nI (as.length - 1))) (ty := .int) (T := T_Fi) hx hb htb u_Fi t_Fi t_Fi_ok n_Fi hown hK h1 hL (Or.inl rfl) rfl 1 (by decide) (htb _ mw_52) (fun _ h9 => h9) rfl (by decide +kernel) rfl rfl (Nat.le_of_ble_eq_true rfl) d_Fi_remove_19 (fun H1 locs q1 hc2 hL => ?_)
    have q1 : va_at D x_cl (h, .inr (5, [.ref r, .int (nI (as.length - 1))])) H1 := q1
    have q2 := hc2.at h2 n1.symm
    refine lv_iload_n hx hb d_Fi_remove_22 rfl (lv_at hl 0 rfl) ?_
    refine lv_istore_n (lv' := [(3, .int (nI i)), (2, .int (nI i)), (0, .ref h), (1, .ref b)]) hx hb d_Fi_remove_23 rfl hl (by decide) rfl (fun ls hl => ?_)
    refine x_loop (σ := Nat × (Nat → Option Nat) × Heap × List Loc × Array Slot) (fun z => F0 m 24 z.2.2.2.2 []) (fun z => z.2.2.1) (fun z => z.2.2.2.1) (fun z => i ≤ z.1 ∧ z.1 ≤ as.length - 1 ∧ va_at D x_cl (h, .inr (5, [.ref r, .int (nI (as.length - 1))])) z.2.2.1 ∧ va_at D x_cl (r, .inl (A 1, 60, .inr (.inr (.inr (.inr z.2.1))))) z.2.2.1 ∧ (∀ (j a : Nat), j < z.1 → (as.eraseIdx i)[j]? = some a → z.2.1 j = some a) ∧ (∀ (j a : Nat), z.1 < j → as[j]? = some a → z.2.1 j = some a) ∧ x_but2 h r H0 z.2.2.1 ∧ (∀ q ∈ z.2.2.2.1, (fun q : Nat => q = h ∨ q = r) q.base) ∧ lv_has z.2.2.2.2 4 [(3, .int (nI z.1)), (0, .ref h)]) (fun z => as.length - z.1) (s0 := (i, g, H1, locs, ls)) ⟨Nat.le_refl _, by show i ≤ as.length - 1; omega, q1, q2, fun j a q q3 => by rw [List.getElem?_eraseIdx, if_pos q] at q3; exact h3 j a q3, fun j a _ q3 => h3 j a q3, x_but2.l hc2, hL, (lv_sub hl [0, 2] rfl)⟩ ?_
    rintro ⟨k, g, H, locs, ls⟩ ⟨hik, hk, p1, p2, p3, p4, hb2, hL, hl⟩ ih
    dsimp only at hik hk p1 p2 p3 p4 hb2 hL hl ih ⊢
    refine lv_iload_n hx hb d_Fi_remove_24 rfl (lv_at hl 0 rfl) ?_
    refine lv_aload_n hx hb d_Fi_remove_25 rfl (lv_at hl 1 rfl) ?_
    refine x_get (ci := 5) (T := T_Fi) hx hb htb u_Fi hown hK p1 rfl 1 (by decide) (htb _ mw_52) (fun _ h9 => h9) (v := .int (nI (as.length - 1))) rfl d_Fi_remove_26 ?_
    refine lv_icmp_ge (tgt := 52) hx hb d_Fi_remove_29 (by decide) (fun c1 => ?_) (fun c1 => ?_)
    · have e : k = as.length - 1 := Nat.le_antisymm hk (Nat.le_of_not_lt fun q => absurd c1 (nI_ge q (by omega)))
      have el : (as.eraseIdx i).length = as.length - 1 := by rw [List.length_eraseIdx, if_pos hi]
      exact x_vret hx hb hr hlocks ⟨as.eraseIdx i, ⟨g, by rw [el]; exact p1, p2, fun j a q => p3 j a (by rw [e, ← el]; exact (List.getElem?_eq_some_iff.mp q).1) q, by rw [el]; omega⟩, by unfold g_rem; rw [hfi]; exact (hs.erase i).kept (hb2.K hM1 hM2), hb2⟩ hL (Nat.le_refl _) (Nat.le_refl _) d_Fi_remove_52
    · have hlt : k < as.length - 1 := Nat.lt_of_not_le fun q => absurd (nI_le q (by omega)) c1
      obtain ⟨a, ha⟩ := g_ex (as := as) (j := k + 1) (by omega)
      obtain ⟨f, hff⟩ := g_ex (as := fs) (j := k + 1) (by rw [← hs.1]; omega)
      obtain ⟨na, ca, f1, f2, f3, f4⟩ := (hs.2 _ a f ha hff).kept (hb2.K hM1 hM2)
      refine lv_aload_n hx hb d_Fi_remove_32 rfl (lv_at hl 1 rfl) ?_
      refine x_get (ci := 5) (T := T_Fi) hx hb htb u_Fi hown hK p1 rfl 0 (by decide) (htb _ mw_51) (fun _ h9 => h9) (v := .ref r) rfl d_Fi_remove_33 ?_
      refine lv_iload_n hx hb d_Fi_remove_36 rfl (lv_at hl 0 rfl) ?_
      refine lv_aload_n hx hb d_Fi_remove_37 rfl (lv_at hl 1 rfl) ?_
      refine x_get (ci := 5) (T := T_Fi) hx hb htb u_Fi hown hK p1 rfl 0 (by decide) (htb _ mw_51) (fun _ h9 => h9) (v := .ref r) rfl d_Fi_remove_38 ?_
      refine lv_iload_n hx hb d_Fi_remove_41 rfl (lv_at hl 0 rfl) ?_
      refine lv_iconst (v := 1) hx hb d_Fi_remove_42 (by decide) ?_
      refine lv_iadd hx hb d_Fi_remove_43 ?_
      refine x_top (y := nI (k + 1)) (nI_1 k) ?_
      refine x_aldq hx hb hK 1 p2 rfl (vp_in_nI (by omega) (by omega)) (r := .ref a) (by rw [nI_clamp (by omega), p4 (k + 1) a (by omega) ha]; rfl) d_Fi_remove_44 ?_
      refine x_astq (F := fun q : Nat => q = h ∨ q = r) hx hb hK 1 2 p2 hL (Or.inr rfl) rfl f1 rfl (vp_in_nI (by omega) (by omega)) d_Fi_remove_45 (fun H3 locs p2 hm3 hL => ?_)
      refine lv_iinc (v := nI (k + 1)) (lv' := [(3, .int (nI (k + 1))), (0, .ref h)]) hx hb d_Fi_remove_46 hl (k := 0) rfl (nI_1 k) (by decide) rfl (fun ls hl => ?_)
      refine lv_goto (tgt := 24) hx hb d_Fi_remove_49 (by decide) ?_
      refine ih (k + 1, _, H3, locs, ls) ⟨by show i ≤ k + 1; omega, by show k + 1 ≤ as.length - 1; omega, hm3.at p1 n1, p2, fun j b q q2 => ?_, fun j b q q2 => ?_, hb2.trans (x_but2.r hm3), hL, (lv_sub hl [0, 1] rfl)⟩ (by show as.length - (k + 1) < as.length - k; omega)
      · show va_up g (nI k).toNatClampNeg (some a) j = some b
        rw [nI_clamp (by omega)]
        rcases Nat.lt_succ_iff_lt_or_eq.mp q with q | q
        · rw [va_up_ne _ _ (by omega)]; exact p3 j b q q2
        · subst q; rw [va_up_self]; rw [List.getElem?_eraseIdx, if_neg (by omega)] at q2; rw [← ha, q2]
      · show va_up g (nI k).toNatClampNeg (some a) j = some b
        have q : k + 1 < j := q
        rw [nI_clamp (by omega), va_up_ne _ _ (by omega)]; exact p4 j b (by omega) q2
set_option maxHeartbeats 4000000 in
set_option maxRecDepth 100000 in
theorem c_Fi_insert (l : Launch) {D : va_G} {A : Nat → ClassId} {H0 : Heap} {M : Nat → Prop} {h r b : Nat} {as : List Nat} {fs : List g_F} {f : g_F} (hf : g_fr D A 5 1 60 h r as H0) (hs : g_fs D A M as fs H0) (hn : g_sf D A M b f H0) (hM1 : M h) (hM2 : M r) (n1 : h ≠ r) : Met l y_Fi_insert w_Fi_insert { frames := 2, cells := 0, slots := 0, locals := 45 } (x_Pc D A [.ref h, .ref b] H0) (x_Q none (fun H1 => ∃ bs : List Nat, g_fr D A 5 1 60 h r bs H1 ∧ g_fs D A M bs (g_ins fs f) H1 ∧ x_but2 h r H0 H1)) 0 0 (fun q : Nat => q = h ∨ q = r) := by
  refine Met.ofW (cc := prog_3_method_12_code) (maxL := 3) (ret := none) (by decide) rfl ?_
  intro p e s m args below meth c s₁ B hml hv
  obtain ⟨rfl, hH, hK, hN⟩ := hv
  obtain ⟨hx, hb, hr, htb, hown, hlocks⟩ := x_start (wd := Cond.code y_Fi_insert prog_3_method_12_code 3 none) B
  have hl := lv_entry ([.ref h, .ref b]) (n := 3) (Nat.le_of_ble_eq_true rfl)
  rw [lg_entry_eq]
  generalize (lg_sl ([.ref h, .ref b]) ++ List.replicate (3 - (lg_sl ([.ref h, .ref b])).length) Slot.unset).toArray = ls at hl ⊢
  have hl : lv_has ls 3 [(0, .ref h), (1, .ref b)] := hl
  rw [hH]
  obtain ⟨g, h1, h2, h3, h4⟩ := id hf
  have hL : ∀ q ∈ ([] : List Loc), (fun q : Nat => q = h ∨ q = r) q.base := fun q hq => by cases hq
  refine lv_aload_n hx hb d_Fi_insert_0 rfl (lv_at hl 1 rfl) ?_
  refine lv_ifnull hx hb d_Fi_insert_1 ?_
  refine lv_aload_n hx hb d_Fi_insert_4 rfl (lv_at hl 0 rfl) ?_
  refine x_callP (va_runV (As := []) (rest := []) ⟨hx, hb, hml, hown, htb⟩ (c_Fi_isFull l hf) (x_cV 0 htb mw_207 mw_3 mw_210 mw_208 mw_209 rfl rfl (by decide +kernel) ⟨Nat.le_of_ble_eq_true rfl, Nat.le_of_ble_eq_true rfl⟩) (x_preV hK hN h1 rfl) rfl rfl hl.1 rfl (lv_room (Nat.le_of_ble_eq_true rfl)) d_Fi_insert_5 ⟨Nat.le_of_ble_eq_true rfl, Nat.le_of_ble_eq_true rfl⟩) ?_
  refine W.eq (g2 := F0 m 8 ls [.int (if 60 ≤ as.length then 1 else 0)]) rfl ?_
  refine lv_if_eq (tgt := 12) hx hb d_Fi_insert_8 (by decide) (fun c0 => ?_) (fun c0 => ?_)
  · have hlt0 : as.length < 60 := Nat.lt_of_not_le fun q => by rw [if_pos q] at c0; exact absurd c0 (by decide)
    refine lv_aload_n hx hb d_Fi_insert_12 rfl (lv_at hl 0 rfl) ?_
    refine x_get (ci := 5) (T := T_Fi) hx hb htb u_Fi hown hK h1 rfl 1 (by decide) (htb _ mw_52) (fun _ h9 => h9) (v := .int (nI as.length)) rfl d_Fi_insert_13 ?_
    refine lv_istore_n (lv' := [(2, .int (nI as.length)), (0, .ref h), (1, .ref b)]) hx hb d_Fi_insert_16 rfl hl (by decide) rfl (fun ls hl => ?_)
    refine x_loop (σ := Nat × (Nat → Option Nat) × Heap × List Loc × Array Slot) (fun z => F0 m 17 z.2.2.2.2 []) (fun z => z.2.2.1) (fun z => z.2.2.2.1) (fun z => z.1 ≤ as.length ∧ g_pos fs f.1 as.length = g_pos fs f.1 z.1 ∧ va_at D x_cl (h, .inr (5, [.ref r, .int (nI as.length)])) z.2.2.1 ∧ va_at D x_cl (r, .inl (A 1, 60, .inr (.inr (.inr (.inr z.2.1))))) z.2.2.1 ∧ (∀ (j a : Nat), j < z.1 → as[j]? = some a → z.2.1 j = some a) ∧ (∀ (j a : Nat), z.1 ≤ j → as[j]? = some a → z.2.1 (j + 1) = some a) ∧ x_but2 h r H0 z.2.2.1 ∧ (∀ q ∈ z.2.2.2.1, (fun q : Nat => q = h ∨ q = r) q.base) ∧ lv_has z.2.2.2.2 3 [(2, .int (nI z.1)), (0, .ref h), (1, .ref b)]) (fun z => z.1) (s0 := (as.length, g, H0, [], ls)) ⟨Nat.le_refl _, rfl, h1, h2, fun j a _ q3 => h3 j a q3, fun j a q q3 => absurd (List.getElem?_eq_some_iff.mp q3).1 (by have q : as.length ≤ j := q; omega), x_but2.refl, hL, (lv_sub hl [0, 1, 2] rfl)⟩ ?_
    rintro ⟨i, g, H, locs, ls⟩ ⟨hi, hps, p1, p2, p3, p4, hb2, hL, hl⟩ ih
    dsimp only at hi hps p1 p2 p3 p4 hb2 hL hl ih ⊢
    have hn2 := hn.kept (hb2.K hM1 hM2)
    obtain ⟨nb, cb, b1, b2, b3, b4⟩ := id hn2
    obtain ⟨pb, b5, b6⟩ := id b3
    refine lv_iload_n hx hb d_Fi_insert_17 rfl (lv_at hl 0 rfl) ?_
    refine lv_if_le (tgt := 73) hx hb d_Fi_insert_18 (by decide) (fun c1 => ?_) (fun c1 => ?_)
    · have e : i = 0 := by
        rcases Nat.eq_zero_or_pos i with q | q
        · exact q
        · exact absurd c1 (nI_nle q (by omega))
      refine lv_aload_n hx hb d_Fi_insert_73 rfl (lv_at hl 1 rfl) ?_
      refine x_get (ci := 5) (T := T_Fi) hx hb htb u_Fi hown hK p1 rfl 0 (by decide) (htb _ mw_51) (fun _ h9 => h9) (v := .ref r) rfl d_Fi_insert_74 ?_
      refine lv_iload_n hx hb d_Fi_insert_77 rfl (lv_at hl 0 rfl) ?_
      refine lv_aload_n hx hb d_Fi_insert_78 rfl (lv_at hl 2 rfl) ?_
      refine x_astq (F := fun q : Nat => q = h ∨ q = r) hx hb hK 1 2 p2 hL (Or.inr rfl) rfl b1 rfl (vp_in_nI (by omega) (by omega)) d_Fi_insert_79 (fun H3 locs p2 hm3 hL => ?_)
      have p1 := hm3.at p1 n1
      refine lv_aload_n hx hb d_Fi_insert_80 rfl (lv_at hl 1 rfl) ?_
      refine lv_dup hx hb d_Fi_insert_81 rfl ?_
      refine x_get (ci := 5) (T := T_Fi) hx hb htb u_Fi hown hK p1 rfl 1 (by decide) (htb _ mw_52) (fun _ h9 => h9) (v := .int (nI as.length)) rfl d_Fi_insert_82 ?_
      refine lv_iconst (v := 1) hx hb d_Fi_insert_85 (by decide) ?_
      refine lv_iadd hx hb d_Fi_insert_86 ?_
      refine x_top (y := nI (as.length + 1)) (nI_1 _) ?_
      refine x_put (F := fun q : Nat => q = h ∨ q = r) (ci := 5) (v := .int (nI (as.length + 1))) (ty := .int) (T := T_Fi) hx hb htb u_Fi t_Fi t_Fi_ok n_Fi hown hK p1 hL (Or.inl rfl) rfl 1 (by decide) (htb _ mw_52) (fun _ h9 => h9) rfl (by decide +kernel) rfl rfl (Nat.le_of_ble_eq_true rfl) d_Fi_insert_87 (fun H4 locs p5 hc3 hL => ?_)
      have p5 : va_at D x_cl (h, .inr (5, [.ref r, .int (nI (as.length + 1))])) H4 := p5
      have el : (as.insertIdx i b).length = as.length + 1 := by rw [List.length_insertIdx, if_pos hi]
      have hb4 := (hb2.trans (x_but2.r hm3)).trans (x_but2.l hc3)
      refine x_vret hx hb hr hlocks ⟨as.insertIdx i b, ⟨_, by rw [el]; exact p5, hc3.at p2 n1.symm, fun j a q => ?_, by rw [el]; omega⟩, ?_, hb4⟩ hL (Nat.le_refl _) (Nat.le_refl _) d_Fi_insert_90
      · show va_up g (nI i).toNatClampNeg (some b) j = some a
        rw [nI_clamp (by omega)]
        rcases g_insIdx hi q with ⟨w, w1⟩ | ⟨w, w1⟩ | ⟨w, w1⟩
        · rw [va_up_ne _ _ (by omega)]; exact p3 j a w w1
        · rw [w, w1, va_up_self]
        · rw [va_up_ne _ _ (by omega)]; have := p4 (j - 1) a (by omega) w1; rwa [Nat.sub_add_cancel (by omega)] at this
      · unfold g_ins
        rw [if_neg (by rw [← hs.1]; omega), ← hs.1, hps, show g_pos fs f.1 i = i by rw [e]; rfl]
        exact ((hs.ins hn hi).kept (hb4.K hM1 hM2))
    · obtain ⟨k, rfl⟩ : ∃ k, i = k + 1 := by
        cases i with
        | zero => exact absurd (by rw [nI_0]; decide) c1
        | succ k => exact ⟨k, rfl⟩
      obtain ⟨a, ha⟩ := g_ex (as := as) (j := k) (by omega)
      obtain ⟨e2, hee⟩ := g_ex (as := fs) (j := k) (by rw [← hs.1]; omega)
      obtain ⟨na, ca, f1, f2, f3, f4⟩ := (hs.2 _ a e2 ha hee).kept (hb2.K hM1 hM2)
      refine lv_aload_n hx hb d_Fi_insert_21 rfl (lv_at hl 1 rfl) ?_
      refine x_get (ci := 5) (T := T_Fi) hx hb htb u_Fi hown hK p1 rfl 0 (by decide) (htb _ mw_51) (fun _ h9 => h9) (v := .ref r) rfl d_Fi_insert_22 ?_
      refine lv_iload_n hx hb d_Fi_insert_25 rfl (lv_at hl 0 rfl) ?_
      refine lv_iconst (v := 1) hx hb d_Fi_insert_26 (by decide) ?_
      refine lv_isub hx hb d_Fi_insert_27 ?_
      refine x_top (y := nI k) (nI_pred k) ?_
      refine x_aldq hx hb hK 1 p2 rfl (vp_in_nI (by omega) (by omega)) (r := .ref a) (by rw [nI_clamp (by omega), p3 k a (by omega) ha]; rfl) d_Fi_insert_28 ?_
      refine lv_ifnull hx hb d_Fi_insert_29 ?_
      refine lv_aload_n hx hb d_Fi_insert_32 rfl (lv_at hl 2 rfl) ?_
      refine x_getN (ci := 2) (T := T_Sf) hx hb htb u_Sf hown hK b1 rfl 0 (by decide) (va_Nw.use rfl (hN.1 _ nf_385)) (fun _ h9 => h9) (v := .ref nb) rfl d_Fi_insert_33 ?_
      refine lv_aload_n hx hb d_Fi_insert_36 rfl (lv_at hl 1 rfl) ?_
      refine x_get (ci := 5) (T := T_Fi) hx hb htb u_Fi hown hK p1 rfl 0 (by decide) (htb _ mw_51) (fun _ h9 => h9) (v := .ref r) rfl d_Fi_insert_37 ?_
      refine lv_iload_n hx hb d_Fi_insert_40 rfl (lv_at hl 0 rfl) ?_
      refine lv_iconst (v := 1) hx hb d_Fi_insert_41 (by decide) ?_
      refine lv_isub hx hb d_Fi_insert_42 ?_
      refine x_top (y := nI k) (nI_pred k) ?_
      refine x_aldq hx hb hK 1 p2 rfl (vp_in_nI (by omega) (by omega)) (r := .ref a) (by rw [nI_clamp (by omega), p3 k a (by omega) ha]; rfl) d_Fi_insert_43 ?_
      refine x_getN (ci := 2) (T := T_Sf) hx hb htb u_Sf hown hK f1 rfl 0 (by decide) (va_Nw.use rfl (hN.1 _ nf_385)) (fun _ h9 => h9) (v := .ref na) rfl d_Fi_insert_44 ?_
      refine x_callP (va_runV (As := [.ref na]) (rest := []) ⟨hx, hb, hml, hown, htb⟩ (c_Nm_order l b3 f3) (x_cV 1 htb mw_162 mw_15 mw_165 mw_163 mw_164 rfl rfl (by decide +kernel) ⟨Nat.le_of_ble_eq_true rfl, Nat.le_of_ble_eq_true rfl⟩) (x_preV hK hN b5 rfl) rfl rfl hl.1 rfl (lv_room (Nat.le_of_ble_eq_true rfl)) d_Fi_insert_47 ⟨Nat.le_of_ble_eq_true rfl, Nat.le_of_ble_eq_true rfl⟩) ?_
      refine W.eq (g2 := F0 m 50 ls [.int (g_no f.1 e2.1)]) rfl ?_
      refine lv_if_ge (tgt := 73) hx hb d_Fi_insert_50 (by decide) (fun c2 => ?_) (fun c2 => ?_)
      · have hstop := g_pos_stop hee (Int32.not_lt.mpr c2)
        generalize hi1 : k + 1 = i at *
        refine lv_aload_n hx hb d_Fi_insert_73 rfl (lv_at hl 1 rfl) ?_
        refine x_get (ci := 5) (T := T_Fi) hx hb htb u_Fi hown hK p1 rfl 0 (by decide) (htb _ mw_51) (fun _ h9 => h9) (v := .ref r) rfl d_Fi_insert_74 ?_
        refine lv_iload_n hx hb d_Fi_insert_77 rfl (lv_at hl 0 rfl) ?_
        refine lv_aload_n hx hb d_Fi_insert_78 rfl (lv_at hl 2 rfl) ?_
        refine x_astq (F := fun q : Nat => q = h ∨ q = r) hx hb hK 1 2 p2 hL (Or.inr rfl) rfl b1 rfl (vp_in_nI (by omega) (by omega)) d_Fi_insert_79 (fun H3 locs p2 hm3 hL => ?_)
        have p1 := hm3.at p1 n1
        refine lv_aload_n hx hb d_Fi_insert_80 rfl (lv_at hl 1 rfl) ?_
        refine lv_dup hx hb d_Fi_insert_81 rfl ?_
        refine x_get (ci := 5) (T := T_Fi) hx hb htb u_Fi hown hK p1 rfl 1 (by decide) (htb _ mw_52) (fun _ h9 => h9) (v := .int (nI as.length)) rfl d_Fi_insert_82 ?_
        refine lv_iconst (v := 1) hx hb d_Fi_insert_85 (by decide) ?_
        refine lv_iadd hx hb d_Fi_insert_86 ?_
        refine x_top (y := nI (as.length + 1)) (nI_1 _) ?_
        refine x_put (F := fun q : Nat => q = h ∨ q = r) (ci := 5) (v := .int (nI (as.length + 1))) (ty := .int) (T := T_Fi) hx hb htb u_Fi t_Fi t_Fi_ok n_Fi hown hK p1 hL (Or.inl rfl) rfl 1 (by decide) (htb _ mw_52) (fun _ h9 => h9) rfl (by decide +kernel) rfl rfl (Nat.le_of_ble_eq_true rfl) d_Fi_insert_87 (fun H4 locs p5 hc4 hL => ?_)
        have p5 : va_at D x_cl (h, .inr (5, [.ref r, .int (nI (as.length + 1))])) H4 := p5
        have el : (as.insertIdx i b).length = as.length + 1 := by rw [List.length_insertIdx, if_pos hi]
        have hb4 := (hb2.trans (x_but2.r hm3)).trans (x_but2.l hc4)
        refine x_vret hx hb hr hlocks ⟨as.insertIdx i b, ⟨_, by rw [el]; exact p5, hc4.at p2 n1.symm, fun j a q => ?_, by rw [el]; omega⟩, ?_, hb4⟩ hL (Nat.le_refl _) (Nat.le_refl _) d_Fi_insert_90
        · show va_up g (nI i).toNatClampNeg (some b) j = some a
          rw [nI_clamp (by omega)]
          rcases g_insIdx hi q with ⟨w, w1⟩ | ⟨w, w1⟩ | ⟨w, w1⟩
          · rw [va_up_ne _ _ (by omega)]; exact p3 j a w w1
          · rw [w, w1, va_up_self]
          · rw [va_up_ne _ _ (by omega)]; have := p4 (j - 1) a (by omega) w1; rwa [Nat.sub_add_cancel (by omega)] at this
        · unfold g_ins
          rw [if_neg (by rw [← hs.1]; omega), ← hs.1, hps, hstop]
          exact ((hs.ins hn hi).kept (hb4.K hM1 hM2))
      · refine lv_aload_n hx hb d_Fi_insert_53 rfl (lv_at hl 1 rfl) ?_
        refine x_get (ci := 5) (T := T_Fi) hx hb htb u_Fi hown hK p1 rfl 0 (by decide) (htb _ mw_51) (fun _ h9 => h9) (v := .ref r) rfl d_Fi_insert_54 ?_
        refine lv_iload_n hx hb d_Fi_insert_57 rfl (lv_at hl 0 rfl) ?_
        refine lv_aload_n hx hb d_Fi_insert_58 rfl (lv_at hl 1 rfl) ?_
        refine x_get (ci := 5) (T := T_Fi) hx hb htb u_Fi hown hK p1 rfl 0 (by decide) (htb _ mw_51) (fun _ h9 => h9) (v := .ref r) rfl d_Fi_insert_59 ?_
        refine lv_iload_n hx hb d_Fi_insert_62 rfl (lv_at hl 0 rfl) ?_
        refine lv_iconst (v := 1) hx hb d_Fi_insert_63 (by decide) ?_
        refine lv_isub hx hb d_Fi_insert_64 ?_
        refine x_top (y := nI k) (nI_pred k) ?_
        refine x_aldq hx hb hK 1 p2 rfl (vp_in_nI (by omega) (by omega)) (r := .ref a) (by rw [nI_clamp (by omega), p3 k a (by omega) ha]; rfl) d_Fi_insert_65 ?_
        refine x_astq (F := fun q : Nat => q = h ∨ q = r) hx hb hK 1 2 p2 hL (Or.inr rfl) rfl f1 rfl (vp_in_nI (by omega) (by omega)) d_Fi_insert_66 (fun H3 locs p2 hm3 hL => ?_)
        refine lv_iinc (v := nI k) (lv' := [(2, .int (nI k)), (0, .ref h), (1, .ref b)]) hx hb d_Fi_insert_67 hl (k := 0) rfl (pk_m1 k) (by decide) rfl (fun ls hl => ?_)
        refine lv_goto (tgt := 17) hx hb d_Fi_insert_70 (by decide) ?_
        refine ih (k, _, H3, locs, ls) ⟨by show k ≤ as.length; omega, hps.trans (g_pos_step hee (Int32.not_le.mp c2)), hm3.at p1 n1, p2, fun j b q q2 => ?_, fun j b q q2 => ?_, hb2.trans (x_but2.r hm3), hL, (lv_sub hl [0, 1, 2] rfl)⟩ (Nat.lt_succ_self k)
        · show va_up g (nI (k + 1)).toNatClampNeg (some a) j = some b
          have q : j < k := q
          rw [nI_clamp (by omega), va_up_ne _ _ (by omega)]; exact p3 j b (by omega) q2
        · show va_up g (nI (k + 1)).toNatClampNeg (some a) (j + 1) = some b
          have q : k ≤ j := q
          rw [nI_clamp (by omega)]
          rcases Nat.eq_or_lt_of_le q with q | q
          · subst q; rw [va_up_self, ← ha, q2]
          · rw [va_up_ne _ _ (by omega)]; exact p4 j b (by omega) q2
  · have hge : 60 ≤ as.length := Nat.le_of_not_lt fun q => c0 (if_neg (by omega))
    exact x_vret hx hb hr hlocks ⟨as, hf, by unfold g_ins; rw [if_pos (by rw [← hs.1]; exact hge)]; exact hs, x_but2.refl⟩ hL (Nat.le_refl _) (Nat.le_refl _) d_Fi_insert_11
def g_ofs (fs : List g_F) (x : Int32) : List g_F := fs.filter (fun f => decide (f.1.1 = x))
def g_lst (fs : List g_F) (x : Int32) : List g_F := (g_ofs fs x).foldl g_ins []
theorem g_lst_no {fs : List g_F} {x : Int32} {i : Nat} {f : g_F} (h : fs[i]? = some f) (h2 : ¬ f.1.1 = x) : g_lst (fs.take (i + 1)) x = g_lst (fs.take i) x := by
  unfold g_lst g_ofs
  rw [g_take h, List.filter_append, List.filter_cons_of_neg (by simpa using h2), List.filter_nil, List.append_nil]
theorem g_lst_yes {fs : List g_F} {x : Int32} {i : Nat} {f : g_F} (h : fs[i]? = some f) (h2 : f.1.1 = x) : g_lst (fs.take (i + 1)) x = g_ins (g_lst (fs.take i) x) f := by
  unfold g_lst g_ofs
  rw [g_take h, List.filter_append, List.filter_cons_of_pos (by simpa using h2), List.filter_nil, List.foldl_append]
  rfl
set_option maxHeartbeats 4000000 in
set_option maxRecDepth 100000 in
theorem c_Fi_copySortFrom (l : Launch) {D : va_G} {A : Nat → ClassId} {H0 : Heap} {M : Nat → Prop} {h r h2 r2 : Nat} {as bs : List Nat} {fs : List g_F} {x : Int32} (hf : g_fr D A 5 1 60 h r as H0) (hg : g_fr D A 5 1 60 h2 r2 bs H0) (hs : g_fs D A M bs fs H0) (hM1 : M h) (hM2 : M r) (n1 : h ≠ r) (n2 : h2 ≠ h) (n3 : h2 ≠ r) (n4 : r2 ≠ h) (n5 : r2 ≠ r) : Met l y_Fi_copySortFrom w_Fi_copySortFrom { frames := 3, cells := 0, slots := 0, locals := 67 } (x_Pc D A [.ref h, .ref h2, .int x] H0) (x_Q none (fun H1 => ∃ bs : List Nat, g_fr D A 5 1 60 h r bs H1 ∧ g_fs D A M bs (g_lst fs x) H1 ∧ x_but2 h r H0 H1)) 0 0 (fun q : Nat => q = h ∨ q = r) := by
  refine Met.ofW (cc := prog_3_method_8_code) (maxL := 4) (ret := none) (by decide) rfl ?_
  intro p e s m args below meth c s₁ B hml hv
  obtain ⟨rfl, hH, hK, hN⟩ := hv
  obtain ⟨hx, hb, hr, htb, hown, hlocks⟩ := x_start (wd := Cond.code y_Fi_copySortFrom prog_3_method_8_code 4 none) B
  have hl := lv_entry ([.ref h, .ref h2, .int x]) (n := 4) (Nat.le_of_ble_eq_true rfl)
  rw [lg_entry_eq]
  generalize (lg_sl ([.ref h, .ref h2, .int x]) ++ List.replicate (4 - (lg_sl ([.ref h, .ref h2, .int x])).length) Slot.unset).toArray = ls at hl ⊢
  have hl : lv_has ls 4 [(0, .ref h), (1, .ref h2), (2, .int x)] := hl
  rw [hH]
  obtain ⟨g, h1, h2a, h3, h4⟩ := hf
  obtain ⟨g2, k1, k2, k3, k4⟩ := hg
  have hL : ∀ q ∈ ([] : List Loc), (fun q : Nat => q = h ∨ q = r) q.base := fun q hq => by cases hq
  refine lv_aload_n hx hb d_Fi_copySortFrom_0 rfl (lv_at hl 0 rfl) ?_
  refine lv_iconst (v := 0) hx hb d_Fi_copySortFrom_1 (by decide) ?_
  refine x_put (F := fun q : Nat => q = h ∨ q = r) (ci := 5) (v := .int 0) (ty := .int) (T := T_Fi) hx hb htb u_Fi t_Fi t_Fi_ok n_Fi hown hK h1 hL (Or.inl rfl) rfl 1 (by decide) (htb _ mw_52) (fun _ h9 => h9) rfl (by decide +kernel) rfl rfl (Nat.le_of_ble_eq_true rfl) d_Fi_copySortFrom_2 (fun H1 locs q1 hc5 hL => ?_)
  have q1 : va_at D x_cl (h, .inr (5, [.ref r, .int 0])) H1 := q1
  have q2 := hc5.at h2a n1.symm
  have hb0 : x_but2 h r H0 H1 := x_but2.l hc5
  have f0 : g_fr D A 5 1 60 h r [] H1 := ⟨g, q1, q2, fun j a q => by simp at q, Nat.zero_le _⟩
  have s0 : g_fs D A M [] (g_lst (fs.take 0) x) H1 := ⟨rfl, fun j a f q => by simp at q⟩
  refine lv_iconst (v := 0) hx hb d_Fi_copySortFrom_5 (by decide) ?_
  refine lv_istore_n (lv' := [(3, .int 0), (0, .ref h), (1, .ref h2), (2, .int x)]) hx hb d_Fi_copySortFrom_6 rfl hl (by decide) rfl (fun ls hl => ?_)
  refine x_loop (σ := Nat × Heap × List Loc × Array Slot) (fun z => F0 m 7 z.2.2.2 []) (fun z => z.2.1) (fun z => z.2.2.1) (fun z => z.1 ≤ bs.length ∧ (∃ cs : List Nat, g_fr D A 5 1 60 h r cs z.2.1 ∧ g_fs D A M cs (g_lst (fs.take z.1) x) z.2.1) ∧ x_but2 h r H0 z.2.1 ∧ (∀ q ∈ z.2.2.1, (fun q : Nat => q = h ∨ q = r) q.base) ∧ lv_has z.2.2.2 4 [(3, .int (nI z.1)), (0, .ref h), (1, .ref h2), (2, .int x)]) (fun z => bs.length - z.1) (s0 := (0, H1, locs, ls)) ⟨Nat.zero_le _, ⟨[], f0, s0⟩, hb0, hL, hl⟩ ?_
  rintro ⟨i, H, locs, ls⟩ ⟨hi, ⟨cs, hf1, hs1⟩, hb2, hL, hl⟩ ih
  dsimp only at hi hf1 hs1 hb2 hL hl ih ⊢
  have k1 := hb2.at k1 n2 n3
  have k2 := hb2.at k2 n4 n5
  obtain ⟨g5, h5, -⟩ := id hf1
  refine lv_iload_n hx hb d_Fi_copySortFrom_7 rfl (lv_at hl 0 rfl) ?_
  refine lv_aload_n hx hb d_Fi_copySortFrom_8 rfl (lv_at hl 2 rfl) ?_
  refine x_get (ci := 5) (T := T_Fi) hx hb htb u_Fi hown hK k1 rfl 1 (by decide) (htb _ mw_52) (fun _ h9 => h9) (v := .int (nI bs.length)) rfl d_Fi_copySortFrom_9 ?_
  refine lv_icmp_ge (tgt := 44) hx hb d_Fi_copySortFrom_12 (by decide) (fun c1 => ?_) (fun c1 => ?_)
  · have e : i = bs.length := Nat.le_antisymm hi (Nat.le_of_not_lt fun q => absurd c1 (nI_ge q (by omega)))
    rw [e, hs.1, List.take_length] at hs1
    exact x_vret hx hb hr hlocks ⟨cs, hf1, hs1, hb2⟩ hL (Nat.le_refl _) (Nat.le_refl _) d_Fi_copySortFrom_44
  · have hlt : i < bs.length := Nat.lt_of_not_le fun q => absurd (nI_le q (by omega)) c1
    obtain ⟨a, ha⟩ := g_ex hlt
    obtain ⟨f, hff⟩ := g_ex (as := fs) (j := i) (by rw [← hs.1]; exact hlt)
    have f1 := (hs.2 i a f ha hff).kept (hb2.K hM1 hM2)
    refine lv_aload_n hx hb d_Fi_copySortFrom_15 rfl (lv_at hl 2 rfl) ?_
    refine x_get (ci := 5) (T := T_Fi) hx hb htb u_Fi hown hK k1 rfl 0 (by decide) (htb _ mw_51) (fun _ h9 => h9) (v := .ref r2) rfl d_Fi_copySortFrom_16 ?_
    refine lv_iload_n hx hb d_Fi_copySortFrom_19 rfl (lv_at hl 0 rfl) ?_
    refine x_aldq hx hb hK 1 k2 rfl (vp_in_nI (by omega) (by omega)) (r := .ref a) (by rw [nI_clamp (by omega), k3 i a ha]; rfl) d_Fi_copySortFrom_20 ?_
    refine lv_iload_n hx hb d_Fi_copySortFrom_21 rfl (lv_at hl 3 rfl) ?_
    refine x_callP (va_runS (As := [.ref a, .int x]) (rest := []) ⟨hx, hb, hml, hown, htb⟩ (c_Fi_isOfSort l f1 x) (x_cS 2 htb mw_200 mw_3 mw_202 mw_201 rfl rfl (by decide +kernel) ⟨Nat.le_of_ble_eq_true rfl, Nat.le_of_ble_eq_true rfl⟩) (x_preS hK hN) rfl rfl hl.1 rfl (lv_room (Nat.le_of_ble_eq_true rfl)) d_Fi_copySortFrom_22 ⟨Nat.le_of_ble_eq_true rfl, Nat.le_of_ble_eq_true rfl⟩) ?_
    refine W.eq (g2 := F0 m 25 ls [.int (if f.1.1 = x then 1 else 0)]) rfl ?_
    refine lv_if_eq (tgt := 38) hx hb d_Fi_copySortFrom_25 (by decide) (fun c0 => ?_) (fun c0 => ?_)
    · have c2 : ¬ f.1.1 = x := fun q => by rw [if_pos q] at c0; exact absurd c0 (by decide)
      refine lv_iinc (v := nI (i + 1)) (lv' := [(3, .int (nI (i + 1))), (0, .ref h), (1, .ref h2), (2, .int x)]) hx hb d_Fi_copySortFrom_38 hl (k := 0) rfl (nI_1 i) (by decide) rfl (fun ls hl => ?_)
      refine lv_goto (tgt := 7) hx hb d_Fi_copySortFrom_41 (by decide) ?_
      exact ih (i + 1, H, locs, ls) ⟨hlt, ⟨cs, hf1, by show g_fs D A M cs (g_lst (fs.take (i + 1)) x) H; rw [g_lst_no hff c2]; exact hs1⟩, hb2, hL, (lv_sub hl [0, 1, 2, 3] rfl)⟩ (by show bs.length - (i + 1) < bs.length - i; omega)
    · have c2 : f.1.1 = x := Decidable.byContradiction fun q => c0 (if_neg q)
      refine lv_aload_n hx hb d_Fi_copySortFrom_28 rfl (lv_at hl 1 rfl) ?_
      refine lv_aload_n hx hb d_Fi_copySortFrom_29 rfl (lv_at hl 2 rfl) ?_
      refine x_get (ci := 5) (T := T_Fi) hx hb htb u_Fi hown hK k1 rfl 0 (by decide) (htb _ mw_51) (fun _ h9 => h9) (v := .ref r2) rfl d_Fi_copySortFrom_30 ?_
      refine lv_iload_n hx hb d_Fi_copySortFrom_33 rfl (lv_at hl 0 rfl) ?_
      refine x_aldq hx hb hK 1 k2 rfl (vp_in_nI (by omega) (by omega)) (r := .ref a) (by rw [nI_clamp (by omega), k3 i a ha]; rfl) d_Fi_copySortFrom_34 ?_
      refine x_call (F := fun q : Nat => q = h ∨ q = r) (va_runV (As := [.ref a]) (rest := []) ⟨hx, hb, hml, hown, htb⟩ (c_Fi_insert l hf1 hs1 f1 hM1 hM2 n1) (x_cV 1 htb mw_203 mw_3 mw_206 mw_205 ms_2 rfl rfl (by decide +kernel) ⟨Nat.le_of_ble_eq_true rfl, Nat.le_of_ble_eq_true rfl⟩) (x_preV hK hN h5 rfl) rfl rfl hl.1 rfl (lv_room (Nat.le_of_ble_eq_true rfl)) d_Fi_copySortFrom_35 ⟨Nat.le_of_ble_eq_true rfl, Nat.le_of_ble_eq_true rfl⟩) hL (fun q hq => hq) (fun H3 locs hP hL => ?_)
      refine W.eq (g2 := F0 m 38 ls []) rfl ?_
      obtain ⟨ds, hf3, hs3, hb3⟩ := hP
      refine lv_iinc (v := nI (i + 1)) (lv' := [(3, .int (nI (i + 1))), (0, .ref h), (1, .ref h2), (2, .int x)]) hx hb d_Fi_copySortFrom_38 hl (k := 0) rfl (nI_1 i) (by decide) rfl (fun ls hl => ?_)
      refine lv_goto (tgt := 7) hx hb d_Fi_copySortFrom_41 (by decide) ?_
      exact ih (i + 1, H3, locs, ls) ⟨hlt, ⟨ds, hf3, by show g_fs D A M ds (g_lst (fs.take (i + 1)) x) H3; rw [g_lst_yes hff c2]; exact hs3⟩, hb2.trans hb3, hL, (lv_sub hl [0, 1, 2, 3] rfl)⟩ (by show bs.length - (i + 1) < bs.length - i; omega)
