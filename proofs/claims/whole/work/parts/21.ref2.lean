/-! names: equal where the order says 0 -/
theorem x_sub0 {x y : Int32} (h : x - y = 0) : x = y := by
  have h2 := congrArg (fun z => z + y) h
  simpa using h2
theorem x_subs (x : Int32) : x - x = 0 := by simp
def g_okp (us : List Nat) : Prop := us.length ≤ 400 ∧ ∀ u ∈ us, u < 256
theorem g_po0 : ∀ {us vs : List Nat}, g_okp us → g_okp vs → (g_po us vs = 0 ↔ us = vs)
  | [], vs, _, h2 => by
    show nI 0 - nI vs.length = 0 ↔ _
    constructor
    · intro h
      have h3 := (nI_eq (by decide) (by have := h2.1; omega)).mp (x_sub0 h)
      exact (List.eq_nil_of_length_eq_zero h3.symm).symm
    · intro h
      rw [← h]
      rfl
  | x :: a, [], h1, _ => by
    show nI (a.length + 1) - nI 0 = 0 ↔ _
    constructor
    · intro h
      have h3 := (nI_eq (by have := h1.1; rw [List.length_cons] at this; omega) (by decide)).mp (x_sub0 h)
      omega
    · intro h
      cases h
  | x :: a, y :: b, h1, h2 => by
    have hx := h1.2 x List.mem_cons_self
    have hy := h2.2 y List.mem_cons_self
    have ih := @g_po0 a b ⟨by have := h1.1; rw [List.length_cons] at this; omega, fun u hu => h1.2 u (List.mem_cons_of_mem _ hu)⟩ ⟨by have := h2.1; rw [List.length_cons] at this; omega, fun u hu => h2.2 u (List.mem_cons_of_mem _ hu)⟩
    show (if x = y then g_po a b else if x = 47 then -1 else if y = 47 then 1 else nI x - nI y) = 0 ↔ _
    by_cases e : x = y
    · rw [if_pos e, ih, e]
      constructor
      · intro h; rw [h]
      · intro h; injection h
    · rw [if_neg e]
      refine ⟨fun h => ?_, fun h => absurd (by injection h) e⟩
      split at h
      · exact absurd h (by decide)
      · split at h
        · exact absurd h (by decide)
        · exact absurd ((nI_eq (by omega) (by omega)).mp (x_sub0 h)) e
theorem g_cmp0 {x y : Int32} : g_cmp x y = 0 ↔ x = y := by
  unfold g_cmp
  by_cases h : x < y
  · rw [if_pos h]
    exact ⟨fun h => absurd h (by decide), fun e => absurd h (by rw [e]; exact Int32.lt_irrefl)⟩
  · rw [if_neg h]
    by_cases e : x = y
    · rw [if_pos e]; exact ⟨fun _ => e, fun _ => rfl⟩
    · rw [if_neg e]; exact ⟨fun h => absurd h (by decide), fun h => absurd h e⟩
theorem g_no0 {a b : g_N} (ha : g_okp a.2.2) (hb : g_okp b.2.2) : g_no a b = 0 ↔ a = b := by
  obtain ⟨a1, a2, a3⟩ := a
  obtain ⟨b1, b2, b3⟩ := b
  unfold g_no
  dsimp only at *
  by_cases e1 : a1 = b1
  · rw [if_pos e1]
    by_cases e2 : a2 = b2
    · rw [if_pos e2, g_po0 ha hb, e1, e2]
      constructor
      · intro h; rw [h]
      · intro h; injection h with h h2; injection h2
    · rw [if_neg e2, g_cmp0]
      exact ⟨fun h => absurd h e2, fun h => by injection h with h h2; injection h2⟩
  · rw [if_neg e1, g_cmp0]
    exact ⟨fun h => absurd h e1, fun h => by injection h⟩
/-- files from entry o on -/
def m_L (G : m_G) (o : Nat) (fs : List g_F) : Prop := ∀ (i : Nat) (f : g_F), fs[i]? = some f → m_e G (i + o) f
theorem m_e.okp {G : m_G} {e : Nat} {f : g_F} (h : m_e G e f) : g_okp f.1.2.2 := ⟨by have := h.2.1.2.1; omega, h.2.1.2.2.2⟩
theorem sb_inj {u v : Nat} (hu : u < 256) (hv : v < 256) (h : sb_b u = sb_b v) : u = v := by
  have h1 := (sb_byte u hu).1
  have h2 := (sb_byte v hv).1
  rw [h, h2] at h1
  exact ((nI_eq (by omega) (by omega)).mp h1).symm
theorem m_tk {us : List Nat} {k : Nat} (h : k < us.length) : us.take (k + 1) = us.take k ++ [us.getD k 0] := by
  rw [List.take_add_one, List.getD_eq_getElem?_getD, List.getElem?_eq_getElem h]
  rfl
theorem m_tk2 {us vs : List Nat} {k : Nat} (hu : k < us.length) (hv : k < vs.length) : us.take (k + 1) = vs.take (k + 1) ↔ (us.take k = vs.take k ∧ us.getD k 0 = vs.getD k 0) := by
  rw [m_tk hu, m_tk hv]
  constructor
  · intro h
    have := List.append_inj' h rfl
    exact ⟨this.1, by injection this.2⟩
  · intro h
    rw [h.1, h.2]
theorem m_end {us vs : List Nat} {k : Nat} (hk : k = us.length) (h : us.length = vs.length ∧ us.take k = vs.take k) : us = vs := by
  have h2 := h.2
  rw [hk, List.take_length, h.1, List.take_length] at h2
  exact h2

set_option maxHeartbeats 4000000 in
set_option maxRecDepth 100000 in
theorem c_Mo_hasPath (l : Launch) {D : va_G} {A : Nat → ClassId} {H0 : Heap} {b : Nat} {v0 v1 v2 v3 v4 v5 v6 v7 : Int32} {G : m_G} (ho : m_O D b v0 v1 v2 v3 v4 v5 v6 v7 H0) (hR : m_R D A b G H0) {i j : Nat} {f g : g_F} (hi : i < 320) (hj : j < 320) (hf : m_e G i f) (hg : m_e G j g) : Met l y_Mo_hasPath w_Mo_hasPath { frames := 0, cells := 0, slots := 0, locals := 0 } (x_Pc D A [.ref b, .int (nI i), .int (nI j)] H0) (x_Q (some (.int (if f.1.2.2 = g.1.2.2 then 1 else 0))) (fun H1 => H1 = H0)) 0 0 (fun _ => False) := by
  refine Met.ofW (cc := prog_10_method_7_code) (maxL := 5) (ret := (some .boolean)) (by decide) rfl ?_
  intro p e s m args below meth c s₁ B hml hv
  obtain ⟨rfl, hH, hK, hN⟩ := hv
  obtain ⟨hx, hb, hr, htb, hown, hlocks⟩ := x_start (wd := Cond.code y_Mo_hasPath prog_10_method_7_code 5 (some .boolean)) B
  have hl := lv_entry ([.ref b, .int (nI i), .int (nI j)]) (n := 5) (Nat.le_of_ble_eq_true rfl)
  rw [lg_entry_eq]
  generalize (lg_sl ([.ref b, .int (nI i), .int (nI j)]) ++ List.replicate (5 - (lg_sl ([.ref b, .int (nI i), .int (nI j)])).length) Slot.unset).toArray = ls at hl ⊢
  have hl : lv_has ls 5 [(0, .ref b), (1, .int (nI i)), (2, .int (nI j))] := hl
  rw [hH]
  obtain ⟨-, ⟨f3, f4, f5, f6⟩, -⟩ := hf
  obtain ⟨-, ⟨g3, g4, g5, g6⟩, -⟩ := hg
  generalize f.1.2.2 = us at *
  generalize g.1.2.2 = vs at *
  have rest : ∀ ls, lv_has ls 5 [(3, .int (if us.length = vs.length ∧ us.take 0 = vs.take 0 then 1 else 0)), (0, .ref b), (1, .int (nI i)), (2, .int (nI j))] → W p l e (headSpec w_Mo_hasPath { frames := 0, cells := 0, slots := 0, locals := 0 }).room s m [Value.ref b, Value.int (nI i), Value.int (nI j)].toArray below meth c H0 [] 0 0 (MQ below (x_Q (some (.int (if us = vs then 1 else 0))) (fun H1 => H1 = H0)) [Value.ref b, Value.int (nI i), Value.int (nI j)].toArray s 0 0 (fun _ => False)) (F0 m 21 ls []) := by
    intro ls hl
    refine lv_iconst (v := 0) hx hb d_Mo_hasPath_21 (by decide) ?_
    refine lv_istore (lv' := [(4, .int 0), (3, .int (if us.length = vs.length ∧ us.take 0 = vs.take 0 then 1 else 0)), (0, .ref b), (1, .int (nI i)), (2, .int (nI j))]) hx hb d_Mo_hasPath_22 hl (by decide) rfl (fun ls hl => ?_)
    refine x_loop (σ := Nat × Array Slot) (fun z => F0 m 24 z.2 []) (fun _ => H0) (fun _ => []) (fun z => z.1 ≤ us.length ∧ lv_has z.2 5 [(4, .int (nI z.1)), (3, .int (if us.length = vs.length ∧ us.take z.1 = vs.take z.1 then 1 else 0)), (0, .ref b), (1, .int (nI i)), (2, .int (nI j))]) (fun z => us.length - z.1) (s0 := (0, ls)) ⟨Nat.zero_le _, (lv_sub hl [0, 1, 2, 3, 4] rfl)⟩ ?_
    clear hl
    rintro ⟨k, ls⟩ ⟨hk, hl⟩ ih
    dsimp only at hk  hl ih ⊢
    refine lv_iload hx hb d_Mo_hasPath_24 (lv_at hl 0 rfl) ?_
    refine lv_aload_n hx hb d_Mo_hasPath_26 rfl (lv_at hl 2 rfl) ?_
    refine x_get (ci := 8) (T := T_Mo) hx hb htb u_Mo hown hK ho rfl 7 (by decide) (htb _ mw_470) (fun _ h9 => h9) (v := .ref (b + 5)) rfl d_Mo_hasPath_27 ?_
    refine lv_iload_n hx hb d_Mo_hasPath_30 rfl (lv_at hl 3 rfl) ?_
    refine m_ild hx hb hK hR 5 (by decide) (by decide) rfl (i := i) (show _ < 320 by omega) d_Mo_hasPath_31 ?_
    refine x_top (y := nI us.length) (f3) ?_
    refine lv_icmp_ge (tgt := 78) hx hb d_Mo_hasPath_32 (by decide) (fun c1 => ?_) (fun c1 => ?_)
    · have e : k = us.length := Nat.le_antisymm hk (Nat.le_of_not_lt fun q => absurd c1 (nI_ge q (by omega)))
      have e2 : (us.length = vs.length ∧ us.take k = vs.take k) ↔ us = vs := ⟨fun q => m_end e q, fun q => by rw [q]; exact ⟨rfl, rfl⟩⟩
      refine lv_iload_n hx hb d_Mo_hasPath_78 rfl (lv_at hl 1 rfl) ?_
      exact x_zret hx hb hr hlocks (by simp only [e2]) (by split <;> decide) rfl (fun q hq => by cases hq) (Nat.le_refl _) (Nat.le_refl _) d_Mo_hasPath_79
    · have hlt : k < us.length := Nat.lt_of_not_le fun q => absurd (nI_le q (by omega)) c1
      refine lv_iload_n hx hb d_Mo_hasPath_35 rfl (lv_at hl 1 rfl) ?_
      refine lv_if_eq (tgt := 78) hx hb d_Mo_hasPath_36 (by decide) (fun c2 => ?_) (fun c2 => ?_)
      · have e2 : ¬ (us.length = vs.length ∧ us.take k = vs.take k) := fun q => by rw [if_pos q] at c2; exact absurd c2 (by decide)
        have e3 : ¬ us = vs := fun q => e2 (by rw [q]; exact ⟨rfl, rfl⟩)
        refine lv_iload_n hx hb d_Mo_hasPath_78 rfl (lv_at hl 1 rfl) ?_
        exact x_zret hx hb hr hlocks (by rw [if_neg e2, if_neg e3]) (by split <;> decide) rfl (fun q hq => by cases hq) (Nat.le_refl _) (Nat.le_refl _) d_Mo_hasPath_79
      · have e2 : us.length = vs.length ∧ us.take k = vs.take k := Decidable.byContradiction fun q => c2 (if_neg q)
        refine lv_aload_n hx hb d_Mo_hasPath_39 rfl (lv_at hl 2 rfl) ?_
        refine x_get (ci := 8) (T := T_Mo) hx hb htb u_Mo hown hK ho rfl 9 (by decide) (htb _ mw_472) (fun _ h9 => h9) (v := .ref (b + 7)) rfl d_Mo_hasPath_40 ?_
        refine lv_bipush (v := 100) hx hb d_Mo_hasPath_43 (by decide) ?_
        refine lv_iload_n hx hb d_Mo_hasPath_45 rfl (lv_at hl 3 rfl) ?_
        refine lv_imul hx hb d_Mo_hasPath_46 ?_
        refine lv_iload hx hb d_Mo_hasPath_47 (lv_at hl 0 rfl) ?_
        refine lv_iadd hx hb d_Mo_hasPath_49 ?_
        refine x_top (y := nI (100 * i + k)) (by rw [show (100 : Int32) = nI 100 from rfl, pk_mul, nI_add]) ?_
        refine m_bld hx hb hK hR 7 (by decide) (by decide) rfl (i := 100 * i + k) (show _ < 32000 by omega) d_Mo_hasPath_50 ?_
        refine x_top (y := sb_b (us.getD k 0)) (f5 k hlt) ?_
        refine lv_aload_n hx hb d_Mo_hasPath_51 rfl (lv_at hl 2 rfl) ?_
        refine x_get (ci := 8) (T := T_Mo) hx hb htb u_Mo hown hK ho rfl 9 (by decide) (htb _ mw_472) (fun _ h9 => h9) (v := .ref (b + 7)) rfl d_Mo_hasPath_52 ?_
        refine lv_bipush (v := 100) hx hb d_Mo_hasPath_55 (by decide) ?_
        refine lv_iload_n hx hb d_Mo_hasPath_57 rfl (lv_at hl 4 rfl) ?_
        refine lv_imul hx hb d_Mo_hasPath_58 ?_
        refine lv_iload hx hb d_Mo_hasPath_59 (lv_at hl 0 rfl) ?_
        refine lv_iadd hx hb d_Mo_hasPath_61 ?_
        refine x_top (y := nI (100 * j + k)) (by rw [show (100 : Int32) = nI 100 from rfl, pk_mul, nI_add]) ?_
        refine m_bld hx hb hK hR 7 (by decide) (by decide) rfl (i := 100 * j + k) (show _ < 32000 by omega) d_Mo_hasPath_62 ?_
        refine x_top (y := sb_b (vs.getD k 0)) (g5 k (by omega)) ?_
        have e4 := m_tk2 hlt (vs := vs) (by omega)
        refine lv_icmp_ne (tgt := 70) hx hb d_Mo_hasPath_63 (by decide) (fun c3 => ?_) (fun c3 => ?_)
        · refine lv_iconst (v := 0) hx hb d_Mo_hasPath_70 (by decide) ?_
          refine x_top (y := if us.length = vs.length ∧ us.take (k + 1) = vs.take (k + 1) then 1 else 0) ((if_neg (fun q => c3 (congrArg sb_b (e4.mp q.2).2))).symm) ?_
          refine lv_istore_n (lv' := [(3, .int (if us.length = vs.length ∧ us.take (k + 1) = vs.take (k + 1) then 1 else 0)), (4, .int (nI k)), (0, .ref b), (1, .int (nI i)), (2, .int (nI j))]) hx hb d_Mo_hasPath_71 rfl hl (by decide) rfl (fun ls hl => ?_)
          refine lv_iinc (v := nI (k + 1)) (lv' := [(4, .int (nI (k + 1))), (3, .int (if us.length = vs.length ∧ us.take (k + 1) = vs.take (k + 1) then 1 else 0)), (0, .ref b), (1, .int (nI i)), (2, .int (nI j))]) hx hb d_Mo_hasPath_72 hl (k := 1) rfl (nI_1 k) (by decide) rfl (fun ls hl => ?_)
          refine lv_goto (tgt := 24) hx hb d_Mo_hasPath_75 (by decide) ?_
          exact ih (k + 1, ls) ⟨hlt, (lv_sub hl [0, 1, 2, 3, 4] rfl)⟩ (by show us.length - (k + 1) < us.length - k; omega)
        · refine lv_iconst (v := 1) hx hb d_Mo_hasPath_66 (by decide) ?_
          refine lv_goto (tgt := 71) hx hb d_Mo_hasPath_67 (by decide) ?_
          refine x_top (y := if us.length = vs.length ∧ us.take (k + 1) = vs.take (k + 1) then 1 else 0) ((if_pos ⟨e2.1, e4.mpr ⟨e2.2, sb_inj (g_u f6 k) (g_u g6 k) c3⟩⟩).symm) ?_
          refine lv_istore_n (lv' := [(3, .int (if us.length = vs.length ∧ us.take (k + 1) = vs.take (k + 1) then 1 else 0)), (4, .int (nI k)), (0, .ref b), (1, .int (nI i)), (2, .int (nI j))]) hx hb d_Mo_hasPath_71 rfl hl (by decide) rfl (fun ls hl => ?_)
          refine lv_iinc (v := nI (k + 1)) (lv' := [(4, .int (nI (k + 1))), (3, .int (if us.length = vs.length ∧ us.take (k + 1) = vs.take (k + 1) then 1 else 0)), (0, .ref b), (1, .int (nI i)), (2, .int (nI j))]) hx hb d_Mo_hasPath_72 hl (k := 1) rfl (nI_1 k) (by decide) rfl (fun ls hl => ?_)
          refine lv_goto (tgt := 24) hx hb d_Mo_hasPath_75 (by decide) ?_
          exact ih (k + 1, ls) ⟨hlt, (lv_sub hl [0, 1, 2, 3, 4] rfl)⟩ (by show us.length - (k + 1) < us.length - k; omega)
  refine lv_aload_n hx hb d_Mo_hasPath_0 rfl (lv_at hl 0 rfl) ?_
  refine x_get (ci := 8) (T := T_Mo) hx hb htb u_Mo hown hK ho rfl 7 (by decide) (htb _ mw_470) (fun _ h9 => h9) (v := .ref (b + 5)) rfl d_Mo_hasPath_1 ?_
  refine lv_iload_n hx hb d_Mo_hasPath_4 rfl (lv_at hl 1 rfl) ?_
  refine m_ild hx hb hK hR 5 (by decide) (by decide) rfl (i := i) (show _ < 320 by omega) d_Mo_hasPath_5 ?_
  refine x_top (y := nI us.length) (f3) ?_
  refine lv_aload_n hx hb d_Mo_hasPath_6 rfl (lv_at hl 0 rfl) ?_
  refine x_get (ci := 8) (T := T_Mo) hx hb htb u_Mo hown hK ho rfl 7 (by decide) (htb _ mw_470) (fun _ h9 => h9) (v := .ref (b + 5)) rfl d_Mo_hasPath_7 ?_
  refine lv_iload_n hx hb d_Mo_hasPath_10 rfl (lv_at hl 2 rfl) ?_
  refine m_ild hx hb hK hR 5 (by decide) (by decide) rfl (i := j) (show _ < 320 by omega) d_Mo_hasPath_11 ?_
  refine x_top (y := nI vs.length) (g3) ?_
  refine lv_icmp_ne (tgt := 19) hx hb d_Mo_hasPath_12 (by decide) (fun c1 => ?_) (fun c1 => ?_)
  · have e : ¬ us.length = vs.length := fun q => c1 (by rw [q])
    refine lv_iconst (v := 0) hx hb d_Mo_hasPath_19 (by decide) ?_
    refine x_top (y := if us.length = vs.length ∧ us.take 0 = vs.take 0 then 1 else 0) ((if_neg (fun q => e q.1)).symm) ?_
    refine lv_istore_n (lv' := [(3, .int (if us.length = vs.length ∧ us.take 0 = vs.take 0 then 1 else 0)), (0, .ref b), (1, .int (nI i)), (2, .int (nI j))]) hx hb d_Mo_hasPath_20 rfl hl (by decide) rfl (fun ls hl => ?_)
    exact rest ls (lv_sub hl [0, 1, 2, 3] rfl)
  · have e : us.length = vs.length := (nI_eq (by omega) (by omega)).mp c1
    refine lv_iconst (v := 1) hx hb d_Mo_hasPath_15 (by decide) ?_
    refine lv_goto (tgt := 20) hx hb d_Mo_hasPath_16 (by decide) ?_
    refine x_top (y := if us.length = vs.length ∧ us.take 0 = vs.take 0 then 1 else 0) ((if_pos ⟨e, by rw [List.take_zero, List.take_zero]⟩).symm) ?_
    refine lv_istore_n (lv' := [(3, .int (if us.length = vs.length ∧ us.take 0 = vs.take 0 then 1 else 0)), (0, .ref b), (1, .int (nI i)), (2, .int (nI j))]) hx hb d_Mo_hasPath_20 rfl hl (by decide) rfl (fun ls hl => ?_)
    exact rest ls (lv_sub hl [0, 1, 2, 3] rfl)
