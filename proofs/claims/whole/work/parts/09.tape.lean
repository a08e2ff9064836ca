/-! TAPE: bytes that come and go -/
/-- what a method may write: the places M, and what it makes -/
def x_fr (M : Nat → Prop) (H0 : Heap) : Nat → Prop := fun q => M q ∨ H0.size ≤ q
/-- an answer that is a reference -/
def x_Qr (P : Nat → Heap → Prop) : Array Value → State → Outcome → State → Prop := fun _ _ oc t => ∃ q : Nat, oc = .returned (some (.ref q)) ∧ P q t.heap
section XR
variable {p : Program} {l : Launch} {e : Env} {R : Room} {s : State} {m : MethodId} {args : Array Value} {below : List Frame} {meth : Method} {c : Code} {H : Heap} {locs : List Loc} {cells slots : Nat} {Q : State → Prop}
variable {cc : ByteArray} {pc : Nat} {ls : Array Slot} {rest : List Value} {F : Nat → Prop}
theorem x_callr {st0 : List Value} {av : Array Value} {mc ms : Nat} {free : Addr → Prop} {P : Nat → Heap → Prop} (hr : va_Run p l e R s m args below meth c H locs cells slots mc ms (F0 m pc ls st0) rest (x_Qr P av) free) (hL : ∀ q ∈ locs, F q.base) (hf : ∀ q, free q → F q)
    (kk : ∀ (q : Nat) (H1 : Heap) (locs1 : List Loc), P q H1 → (∀ q ∈ locs1, F q.base) → W p l e R s m args below meth c H1 locs1 (cells + mc) (slots + ms) Q (F0 m (pc + 3) ls (.ref q :: rest))) : W p l e R s m args below meth c H locs cells slots Q (F0 m pc ls st0) := by
  intro T hT X
  obtain ⟨v', st₀, t, T', L, h0, X', hL', e1, e2, ⟨q, hv, hP⟩, st⟩ := hr T hT X
  cases hv
  obtain ⟨t2, a1, b1⟩ := kk q T'.heap (locs ++ L) (by rw [e1]; exact hP) (fun q hq => by
      rcases List.mem_append.mp hq with h | h
      · exact hL q h
      · exact hf _ (hL' q h)) T' rfl X'
  exact ⟨t2, st t2 a1, b1⟩
theorem x_aretr {mc ms : Nat} {free : Addr → Prop} {q : Nat} {rt : FieldType} {P : Nat → Heap → Prop} (hexec : p.tables.exec = Jvm.exec) (hb : c.code = cc) (hr : meth.sig.returnType = some rt) (hrt : (∃ n, rt = .object n) ∨ ∃ t, rt = .array t) (hlocks : meth.locks = false) (hP : P q H) (hL : ∀ q ∈ locs, free q.base) (hc : cells ≤ mc) (hs : slots ≤ ms) (hdg : decode cc pc = .ok (.areturn, 1)) : W p l e R s m args below meth c H locs cells slots (MQ below (x_Qr P) args s mc ms free) (F0 m pc ls [.ref q]) :=
  W.widen hc hs (W.aret hexec hb hr hrt (Or.inr ⟨q, rfl⟩) (fun t ht _ => ⟨q, rfl, by rw [ht]; exact hP⟩) hL hdg hlocks)
end XR
theorem g_arr {cA : ClassId} {n : Nat} {f g : Nat → Int32} (h : ∀ j, j < n → f j = g j) : vp_cell cA (n, .inl f) = vp_cell cA (n, .inl g) := by
  rw [vp_cell_i, vp_cell_i]
  unfold arrV
  congr 1
  exact congrArg Array.ofFn (funext fun j => congrArg Value.int (h j.val j.isLt))
/-- the tape: an object with a row of 400 bytes, the first of which are us -/
def g_tp (D : va_G) (A : Nat → ClassId) (t r : Nat) (us : List Nat) (H : Heap) : Prop :=
  ∃ f : Nat → Int32, va_at D x_cl (t, .inr (4, [.ref r, .int (nI us.length)])) H ∧ va_at D x_cl (r, .inl (A 0, 400, .inl f)) H ∧ (∀ j, j < us.length → f j = sb_b (us.getD j 0)) ∧ sb_Fit f ∧ us.length ≤ 400 ∧ ∀ u ∈ us, u < 256
theorem df_By : ∀ j, j < 1 → defaultValue (t_By j) = vp_V [.null] j := by
  intro j hj
  match j, hj with
  | 0, _ => rfl
  | j + 1, hj => exact absurd hj (by omega)
theorem df_Nm : ∀ j, j < 3 → defaultValue (t_Nm j) = vp_V [.int 0, .int 0, .null] j := by
  intro j hj
  match j, hj with
  | 0, _ => rfl
  | 1, _ => rfl
  | 2, _ => rfl
  | j + 3, hj => exact absurd hj (by omega)
theorem df_Sf : ∀ j, j < 2 → defaultValue (t_Sf j) = vp_V [.null, .null] j := by
  intro j hj
  match j, hj with
  | 0, _ => rfl
  | 1, _ => rfl
  | j + 2, hj => exact absurd hj (by omega)
theorem df_Op : ∀ j, j < 2 → defaultValue (t_Op j) = vp_V [.null, .null] j := by
  intro j hj
  match j, hj with
  | 0, _ => rfl
  | 1, _ => rfl
  | j + 2, hj => exact absurd hj (by omega)
theorem df_Tp : ∀ j, j < 2 → defaultValue (t_Tp j) = vp_V [.null, .int 0] j := by
  intro j hj
  match j, hj with
  | 0, _ => rfl
  | 1, _ => rfl
  | j + 2, hj => exact absurd hj (by omega)
theorem df_Fi : ∀ j, j < 2 → defaultValue (t_Fi j) = vp_V [.null, .int 0] j := by
  intro j hj
  match j, hj with
  | 0, _ => rfl
  | 1, _ => rfl
  | j + 2, hj => exact absurd hj (by omega)
theorem df_Jo : ∀ j, j < 2 → defaultValue (t_Jo j) = vp_V [.null, .int 0] j := by
  intro j hj
  match j, hj with
  | 0, _ => rfl
  | 1, _ => rfl
  | j + 2, hj => exact absurd hj (by omega)
theorem df_Bd : ∀ j, j < 7 → defaultValue (t_Bd j) = vp_V [.null, .null, .null, .null, .null, .null, .int 0] j := by
  intro j hj
  match j, hj with
  | 0, _ => rfl
  | 1, _ => rfl
  | 2, _ => rfl
  | 3, _ => rfl
  | 4, _ => rfl
  | 5, _ => rfl
  | 6, _ => rfl
  | j + 7, hj => exact absurd hj (by omega)
theorem df_Mo : ∀ j, j < 23 → defaultValue (t_Mo j) = vp_V [.int 0, .null, .null, .int 0, .int 0, .null, .null, .null, .null, .null, .null, .int 0, .int 0, .int 0, .int 0, .null, .null, .null, .int 0, .null, .null, .null, .null] j := by
  intro j hj
  match j, hj with
  | 0, _ => rfl
  | 1, _ => rfl
  | 2, _ => rfl
  | 3, _ => rfl
  | 4, _ => rfl
  | 5, _ => rfl
  | 6, _ => rfl
  | 7, _ => rfl
  | 8, _ => rfl
  | 9, _ => rfl
  | 10, _ => rfl
  | 11, _ => rfl
  | 12, _ => rfl
  | 13, _ => rfl
  | 14, _ => rfl
  | 15, _ => rfl
  | 16, _ => rfl
  | 17, _ => rfl
  | 18, _ => rfl
  | 19, _ => rfl
  | 20, _ => rfl
  | 21, _ => rfl
  | 22, _ => rfl
  | j + 23, hj => exact absurd hj (by omega)
theorem x_min {k n : Nat} (hk : k ≤ n) (hn : n < 2 ^ 31) : (if nI k < nI n then nI k else nI n) = nI k := by
  by_cases q : nI k < nI n
  · rw [if_pos q]
  · rw [if_neg q]
    exact congrArg nI (Nat.le_antisymm (Nat.le_of_not_lt fun w => q (nI_lt w (by omega))) hk)
set_option maxHeartbeats 4000000 in
set_option maxRecDepth 100000 in
theorem c_Ar_copyOf (l : Launch) {D : va_G} {A : Nat → ClassId} {H0 : Heap} {a n k : Nat} {f : Nat → Int32} (h : va_at D x_cl (a, .inl (A 0, n, .inl f)) H0) (hfit : sb_Fit f) (hn : n ≤ 400) (hk : k ≤ n) : Met l y_Ar_copyOf w_Ar_copyOf { frames := 1, cells := 1, slots := 400, locals := 60 } (x_Pc D A [.ref a, .int (nI k)] H0) (x_Qr (fun q H1 => H0.size ≤ q ∧ va_at D x_cl (q, .inl (A 0, k, .inl f)) H1 ∧ H0.size ≤ H1.size ∧ ∀ q : Nat, q < H0.size → H1[q]? = H0[q]?)) 1 400 (fun q : Nat => q = a ∨ H0.size ≤ q) := by
  refine Met.ofW (cc := prog_22_method_121_code) (maxL := 3) (ret := (some (.array .byte))) (by decide) rfl ?_
  intro p e s m args below meth c s₁ B hml hv
  obtain ⟨rfl, hH, hK, hN⟩ := hv
  obtain ⟨hx, hb, hr, htb, hown, hlocks⟩ := x_start (wd := Cond.code y_Ar_copyOf prog_22_method_121_code 3 (some (.array .byte))) B
  have hl := lv_entry ([.ref a, .int (nI k)]) (n := 3) (Nat.le_of_ble_eq_true rfl)
  rw [lg_entry_eq]
  generalize (lg_sl ([.ref a, .int (nI k)]) ++ List.replicate (3 - (lg_sl ([.ref a, .int (nI k)])).length) Slot.unset).toArray = ls at hl ⊢
  have hl : lv_has ls 3 [(0, .ref a), (1, .int (nI k))] := hl
  rw [hH]
  have hnm : s.vm.findClass "[B" = some (A 0) := (hK.2 0 _ rfl).2
  have ha : a < H0.size := h.lt
  have hA : ∀ q, H0.size ≤ q → (fun q : Nat => q = a ∨ H0.size ≤ q) q := fun q hq => Or.inr hq
  have hD : va_D (fun q : Nat => q = a ∨ H0.size ≤ q) [(a, .inl (A 0, n, .inl f))] := ⟨fun i j p q h1 h2 _ => by
      have := (List.getElem?_eq_some_iff.mp h1).1
      have := (List.getElem?_eq_some_iff.mp h2).1
      simp at *; omega, fun k q hq => by
      match k, hq with
      | 0, hq => cases hq; exact Or.inl rfl
      | k + 1, hq => simp at hq⟩
  have hS : va_S (fun q : Nat => q = a ∨ H0.size ≤ q) H0 H0 [] := va_S.rf
  refine lv_iload_n hx hb d_Ar_copyOf_0 rfl (lv_at hl 1 rfl) ?_
  refine lv_aload_n hx hb d_Ar_copyOf_1 rfl (lv_at hl 0 rfl) ?_
  refine x_alen hx hb hK 0 h rfl (v := nI n) rfl d_Ar_copyOf_2 ?_
  refine lv_icmp_ne (tgt := 14) hx hb d_Ar_copyOf_3 (by decide) (fun c1 => ?_) (fun c1 => ?_)
  · refine lv_iload_n hx hb d_Ar_copyOf_14 rfl (lv_at hl 1 rfl) ?_
    refine x_newa (atype := .byte) hx hb (htb _ mw_42) (ty := .byte) rfl hK 0 rfl (fun C q => by cases q) (N' := k) (a0 := (k, .inl (fun _ => 0))) rfl (nI_pos (by omega)) (nI_clamp (by omega)) (by show k * 1 ≤ _; omega) (Nat.le_of_ble_eq_true rfl) (by show 0 + k ≤ 400; omega) d_Ar_copyOf_15 (fun H1 hn1 hz1 ho1 => ?_)
    refine lv_astore_n (lv' := [(2, .ref H0.size), (0, .ref a), (1, .int (nI k))]) hx hb d_Ar_copyOf_17 rfl hl (by decide) rfl (fun ls hl => ?_)
    refine lv_aload_n hx hb d_Ar_copyOf_18 rfl (lv_at hl 1 rfl) ?_
    refine lv_iconst (v := 0) hx hb d_Ar_copyOf_19 (by decide) ?_
    refine lv_aload_n hx hb d_Ar_copyOf_20 rfl (lv_at hl 0 rfl) ?_
    refine lv_iconst (v := 0) hx hb d_Ar_copyOf_21 (by decide) ?_
    refine lv_aload_n hx hb d_Ar_copyOf_22 rfl (lv_at hl 1 rfl) ?_
    have h1 : va_at D x_cl (a, .inl (A 0, n, .inl f)) H1 := h.kept (ho1 a ha)
    refine x_alen hx hb hK 0 h1 rfl (v := nI n) rfl d_Ar_copyOf_23 ?_
    refine lv_iload_n hx hb d_Ar_copyOf_24 rfl (lv_at hl 2 rfl) ?_
    refine va_mmin hx hb (by rw [hml]; exact hl.1.symm) hown (htb _ mw_314) (htb _ mw_315) (htb _ mw_12) (show (Cond.code Lib.Math.min.name Lib.Math.min.code 2 (some .int)).before _ s = true from htb _ mw_316) (Nat.le_of_ble_eq_true rfl) (Nat.le_of_ble_eq_true rfl) (Nat.le_of_ble_eq_true rfl) (by show 0 + k ≤ 400; omega) d_Ar_copyOf_25 ?_
    refine x_top (y := nI k) (x_min hk (by omega)) ?_
    have hD1 : va_D (fun q : Nat => q = a ∨ H0.size ≤ q) [(a, .inl (A 0, n, .inl f)), (H0.size, .inl (A 0, k, .inl (fun _ => 0)))] := hD.push (x_P1 h) rfl (Or.inr (Nat.le_refl _))
    have hP1 : va_P D x_cl [(a, .inl (A 0, n, .inl f)), (H0.size, .inl (A 0, k, .inl (fun _ => 0)))] H1 := va_P.app (x_P1 h1) (x_P1 hn1)
    have hS1 : va_S (fun q : Nat => q = a ∨ H0.size ≤ q) H0 H1 [] := ⟨by omega, fun q hq _ => ho1 q hq, fun q hq => by cases hq⟩
    refine va_copyi hx hb (by rw [hml]; exact hl.1.symm) hown (htb _ mw_317) (htb _ mw_319) (htb _ mw_318) (htb _ mw_13) hK hP1 hD1 hS1 0 1 0 0 rfl rfl rfl rfl rfl (by decide) (by decide) (nI_pos (by omega)) (by rw [nI_clamp (by omega)]; show 0 + k ≤ n; omega) (by rw [nI_clamp (by omega)]; show 0 + k ≤ k; omega) (fun i _ => hfit _) (Nat.le_of_ble_eq_true rfl) (Nat.le_of_ble_eq_true rfl) d_Ar_copyOf_28 (fun H2 locs hP2 hD2 hS2 => ?_)
    refine lv_aload_n hx hb d_Ar_copyOf_31 rfl (lv_at hl 0 rfl) ?_
    have e1 : va_at D x_cl (a, .inl (A 0, n, .inl f)) H2 := hP2 0 _ rfl
    have e2 := hP2 1 _ rfl
    refine x_aretr hx hb hr (Or.inr ⟨_, rfl⟩) hlocks ⟨Nat.le_refl _, ?_, hS2.1, fun q hq => ?_⟩ hS2.2.2 (Nat.le_refl _) (by show 0 + k ≤ 400; omega) d_Ar_copyOf_32
    · have e3 : H2[H0.size]? = some (vp_cell (A 0) (k, .inl (va_cpy f (fun _ => 0) (0 : Int32).toNatClampNeg (0 : Int32).toNatClampNeg (nI k).toNatClampNeg))) := e2
      show H2[H0.size]? = some (vp_cell (A 0) (k, .inl f))
      rw [e3, nI_clamp (by omega)]
      exact congrArg some (g_arr fun j hj => sb_cpy0 hj)
    · by_cases hqa : q = a
      · rw [hqa]; exact (show H2[a]? = some _ from e1).trans (show H0[a]? = some _ from h).symm
      · exact hS2.2.1 q hq (fun w => w.elim hqa (fun w => absurd hq (by omega)))
  · have e : k = n := (nI_eq (by omega) (by omega)).mp c1
    subst e
    refine lv_aload_n hx hb d_Ar_copyOf_6 rfl (lv_at hl 0 rfl) ?_
    refine va_clone (ad := "[B") hx hb (by rw [hml]; exact hl.1.symm) hown (htb _ mw_307) (htb _ mw_308) (htb _ mw_309) (htb _ mw_310) (htb _ mw_311) (hN.1 _ nf_312) hK (x_P1 h) hD hS hA 0 0 rfl rfl hnm (fun i v hv => ?_) (Nat.le_of_ble_eq_true rfl) (Nat.le_of_ble_eq_true rfl) (Nat.le_of_ble_eq_true rfl) (by show 0 + k ≤ 400; omega) d_Ar_copyOf_7 (fun q H1 hK1 hP1 hD1 hS1 => ?_)
    · have hi : i < k := by
        have := (Array.getElem?_eq_some_iff.mp hv).1
        rwa [show (vp_cell (A 0) (k, .inl f)).slots.size = k from arrV_size _ _ _] at this
      have hv2 : (arrV (A 0) k (fun j => .int (f j))).slots[i]? = some v := hv
      rw [arrV_read _ _ hi] at hv2
      cases hv2
      exact hfit i
    refine va_castA hx hb hown (htb _ mw_313) hP1 1 rfl hnm d_Ar_copyOf_10 ?_
    have hq : H0.size ≤ q := (hD1.2 1 _ rfl).resolve_left (fun w => absurd (hD1.1 1 0 _ _ rfl rfl w) (by decide))
    refine x_aretr hx hb hr (Or.inr ⟨_, rfl⟩) hlocks ⟨hq, hP1 1 _ rfl, hS1.1, fun q2 hq2 => ?_⟩ (fun q hq => by cases hq) (Nat.le_refl _) (by show 0 + k ≤ 400; omega) d_Ar_copyOf_13
    by_cases hqa : q2 = a
    · rw [hqa]; exact (show H1[a]? = some _ from hP1 0 _ rfl).trans (show H0[a]? = some _ from h).symm
    · exact hS1.2.1 q2 hq2 (fun w => w.elim hqa (fun w => absurd hq2 (by omega)))
