/-! THE STATE in words: bytes, names, files, operations that never change; M: the places that may be written -/
abbrev g_N : Type := Int32 × Int32 × List Nat
abbrev g_F : Type := g_N × List Nat
abbrev g_O : Type := g_N × Option g_F
/-- the i-th byte, or -1 -/
def g_at (us : List Nat) (k : Int32) : Int32 := if k < 0 then -1 else if nI us.length ≤ k then -1 else nI (us.getD k.toNatClampNeg 0)
/-- the order of two paths as the class tells it -/
def g_po : List Nat → List Nat → Int32
  | x :: a, y :: b => if x = y then g_po a b else if x = 47 then -1 else if y = 47 then 1 else nI x - nI y
  | a, b => nI a.length - nI b.length
/-- Integer.compare -/
def g_cmp (x y : Int32) : Int32 := if x < y then -1 else if x = y then 0 else 1
/-- the order of two names as the class tells it -/
def g_no (a b : g_N) : Int32 := if a.1 = b.1 then (if a.2.1 = b.2.1 then g_po a.2.2 b.2.2 else g_cmp a.2.1 b.2.1) else g_cmp a.1 b.1
/-- bytes: an object with its row -/
def g_bs (D : va_G) (A : Nat → ClassId) (M : Nat → Prop) (a : Nat) (us : List Nat) (H : Heap) : Prop :=
  ∃ r : Nat, va_at D x_cl (a, .inr (0, [.ref r])) H ∧ va_at D x_cl (r, .inl (A 0, us.length, .inl (fun j => sb_b (us.getD j 0)))) H ∧ ¬ M a ∧ ¬ M r ∧ (∀ u ∈ us, u < 256) ∧ us.length ≤ 400
def g_nm (D : va_G) (A : Nat → ClassId) (M : Nat → Prop) (a : Nat) (n : g_N) (H : Heap) : Prop :=
  ∃ b : Nat, va_at D x_cl (a, .inr (1, [.int n.1, .int n.2.1, .ref b])) H ∧ ¬ M a ∧ g_bs D A M b n.2.2 H
def g_sf (D : va_G) (A : Nat → ClassId) (M : Nat → Prop) (a : Nat) (f : g_F) (H : Heap) : Prop :=
  ∃ b d : Nat, va_at D x_cl (a, .inr (2, [.ref b, .ref d])) H ∧ ¬ M a ∧ g_nm D A M b f.1 H ∧ g_bs D A M d f.2 H
def g_of (D : va_G) (A : Nat → ClassId) (M : Nat → Prop) (r : Option Nat) (f : Option g_F) (H : Heap) : Prop := match r, f with
  | none, none => True
  | some a, some f => g_sf D A M a f H
  | _, _ => False
def g_op (D : va_G) (A : Nat → ClassId) (M : Nat → Prop) (a : Nat) (o : g_O) (H : Heap) : Prop :=
  ∃ (b : Nat) (r : Option Nat), va_at D x_cl (a, .inr (3, [.ref b, va_rf r])) H ∧ ¬ M a ∧ g_nm D A M b o.1 H ∧ g_of D A M r o.2 H
/-- the places of a disk that the class may write: the object at a, and ten cells from z on -/
def g_M (a z : Nat) : Nat → Prop := fun q => q = a ∨ (z ≤ q ∧ q < z + 10)
/-- the places where nothing lies that never changes: these, and seventeen cells from z + 12 on -/
def g_Mx (a z : Nat) : Nat → Prop := fun q => q = a ∨ (z ≤ q ∧ q < z + 10) ∨ (z + 12 ≤ q ∧ q < z + 29)
/-- what M doesn't name stays -/
def g_K (M : Nat → Prop) (H H1 : Heap) : Prop := H.size ≤ H1.size ∧ ∀ q : Nat, q < H.size → ¬ M q → H1[q]? = H[q]?
theorem g_K.refl {M : Nat → Prop} {H : Heap} : g_K M H H := ⟨Nat.le_refl _, fun _ _ _ => rfl⟩
theorem g_K.trans {M : Nat → Prop} {H H1 H2 : Heap} (h : g_K M H H1) (h2 : g_K M H1 H2) : g_K M H H2 := ⟨Nat.le_trans h.1 h2.1, fun q hq hM => (h2.2 q (Nat.lt_of_lt_of_le hq h.1) hM).trans (h.2 q hq hM)⟩
theorem g_K.but {M : Nat → Prop} {a : Nat} {H H1 : Heap} (h : x_but a H H1) (ha : M a) : g_K M H H1 := ⟨Nat.le_of_eq h.1.symm, fun q _ hM => h.2 q (fun e => hM (e ▸ ha))⟩
theorem g_K.ext {M : Nat → Prop} {H H1 : Heap} (h : H1.size = H.size + 1) (h2 : ∀ q : Nat, q < H.size → H1[q]? = H[q]?) : g_K M H H1 := ⟨by omega, fun q hq _ => h2 q hq⟩
theorem g_K.at {M : Nat → Prop} {D : va_G} {H H1 : Heap} {q : Nat} {e : va_E} (h : g_K M H H1) (hq : va_at D x_cl (q, e) H) (hM : ¬ M q) : va_at D x_cl (q, e) H1 := hq.kept (h.2 q hq.lt hM)
theorem g_bs.kept {D : va_G} {A : Nat → ClassId} {M N : Nat → Prop} {a : Nat} {us : List Nat} {H H1 : Heap} (h : g_bs D A M a us H) (hk : g_K N H H1) (hNM : ∀ q, N q → M q := by first | exact fun _ h => h | exact fun _ h => h.elim Or.inl (fun h => Or.inr (Or.inl h))) : g_bs D A M a us H1 := by
  obtain ⟨r, h1, h2, h3, h4, h5⟩ := h
  exact ⟨r, hk.at h1 (fun q => h3 (hNM _ q)), hk.at h2 (fun q => h4 (hNM _ q)), h3, h4, h5⟩
theorem g_nm.kept {D : va_G} {A : Nat → ClassId} {M N : Nat → Prop} {a : Nat} {n : g_N} {H H1 : Heap} (h : g_nm D A M a n H) (hk : g_K N H H1) (hNM : ∀ q, N q → M q := by first | exact fun _ h => h | exact fun _ h => h.elim Or.inl (fun h => Or.inr (Or.inl h))) : g_nm D A M a n H1 := by
  obtain ⟨b, h1, h2, h3⟩ := h
  exact ⟨b, hk.at h1 (fun q => h2 (hNM _ q)), h2, h3.kept hk hNM⟩
theorem g_sf.kept {D : va_G} {A : Nat → ClassId} {M N : Nat → Prop} {a : Nat} {f : g_F} {H H1 : Heap} (h : g_sf D A M a f H) (hk : g_K N H H1) (hNM : ∀ q, N q → M q := by first | exact fun _ h => h | exact fun _ h => h.elim Or.inl (fun h => Or.inr (Or.inl h))) : g_sf D A M a f H1 := by
  obtain ⟨b, d, h1, h2, h3, h4⟩ := h
  exact ⟨b, d, hk.at h1 (fun q => h2 (hNM _ q)), h2, h3.kept hk hNM, h4.kept hk hNM⟩
theorem g_of.kept {D : va_G} {A : Nat → ClassId} {M N : Nat → Prop} {r : Option Nat} {f : Option g_F} {H H1 : Heap} (h : g_of D A M r f H) (hk : g_K N H H1) (hNM : ∀ q, N q → M q := by first | exact fun _ h => h | exact fun _ h => h.elim Or.inl (fun h => Or.inr (Or.inl h))) : g_of D A M r f H1 := by
  cases r <;> cases f
  · exact h
  · exact h
  · exact h
  · exact g_sf.kept h hk hNM
theorem g_op.kept {D : va_G} {A : Nat → ClassId} {M N : Nat → Prop} {a : Nat} {o : g_O} {H H1 : Heap} (h : g_op D A M a o H) (hk : g_K N H H1) (hNM : ∀ q, N q → M q := by first | exact fun _ h => h | exact fun _ h => h.elim Or.inl (fun h => Or.inr (Or.inl h))) : g_op D A M a o H1 := by
  obtain ⟨b, r, h1, h2, h3, h4⟩ := h
  exact ⟨b, r, hk.at h1 (fun q => h2 (hNM _ q)), h2, h3.kept hk hNM, h4.kept hk hNM⟩
theorem x_but.trans {a : Nat} {H H1 H2 : Heap} (h : x_but a H H1) (h2 : x_but a H1 H2) : x_but a H H2 := ⟨h2.1.trans h.1, fun q hq => (h2.2 q hq).trans (h.2 q hq)⟩
theorem x_but.at {D : va_G} {a q : Nat} {e : va_E} {H H1 : Heap} (h : x_but a H H1) (hq : va_at D x_cl (q, e) H) (hne : q ≠ a) : va_at D x_cl (q, e) H1 := hq.kept (h.2 q hne)
theorem g_u {us : List Nat} (h : ∀ u ∈ us, u < 256) (j : Nat) : us.getD j 0 < 256 := by
  rw [List.getD_eq_getElem?_getD]
  cases hj : us[j]? with
  | none => decide
  | some u => exact h u (List.mem_of_getElem? hj)
theorem g_and {us : List Nat} (h : ∀ u ∈ us, u < 256) (j : Nat) : sb_b (us.getD j 0) &&& 255 = nI (us.getD j 0) := (sb_byte _ (g_u h j)).1
theorem g_po_nil {us vs : List Nat} {k : Nat} (e : k = us.length) (h : k ≤ vs.length) : nI us.length - nI vs.length = g_po [] (vs.drop k) := by
  show _ = nI 0 - nI (vs.drop k).length
  rw [List.length_drop, e] at *
  have h1 : nI vs.length = nI us.length + nI (vs.length - us.length) := by rw [nI_add]; congr 1; omega
  rw [h1, nI_0]
  generalize nI us.length = x
  generalize nI (vs.length - us.length) = y
  apply Int32.toBitVec_inj.mp
  simp only [Int32.toBitVec_sub, Int32.toBitVec_add, Int32.toBitVec_zero]
  apply BitVec.eq_of_toNat_eq
  have hx := x.toBitVec.isLt
  have hy := y.toBitVec.isLt
  simp only [BitVec.toNat_sub, BitVec.toNat_add, BitVec.toNat_ofNat]
  omega
theorem g_po_any {a : List Nat} : g_po a [] = nI a.length - nI 0 := by cases a <;> rfl
theorem g_po_nil2 {us vs : List Nat} {k : Nat} (e : k = vs.length) (h : k ≤ us.length) : nI us.length - nI vs.length = g_po (us.drop k) (vs.drop k) := by
  rw [e, List.drop_length, g_po_any, List.length_drop, nI_0]
  rw [← e]
  have h1 : nI us.length = nI k + nI (us.length - k) := by rw [nI_add]; congr 1; omega
  rw [h1]
  generalize nI k = x
  generalize nI (us.length - k) = y
  apply Int32.toBitVec_inj.mp
  simp only [Int32.toBitVec_sub, Int32.toBitVec_add, Int32.toBitVec_zero]
  rw [BitVec.add_comm, BitVec.add_sub_cancel, BitVec.sub_zero]
theorem g_drop {us : List Nat} {k : Nat} (h : k < us.length) : us.drop k = us.getD k 0 :: us.drop (k + 1) := by
  rw [List.drop_eq_getElem_cons h, List.getD_eq_getElem?_getD, List.getElem?_eq_getElem h, Option.getD_some]
theorem g_po_step {us vs : List Nat} {k : Nat} (h : k < us.length) (h2 : k < vs.length) : g_po (us.drop k) (vs.drop k) = if us.getD k 0 = vs.getD k 0 then g_po (us.drop (k + 1)) (vs.drop (k + 1)) else if us.getD k 0 = 47 then -1 else if vs.getD k 0 = 47 then 1 else nI (us.getD k 0) - nI (vs.getD k 0) := by
  rw [g_drop h, g_drop h2]
  rfl
section XL
variable {p : Program} {l : Launch} {e : Env} {R : Room} {s : State} {m : MethodId} {args : Array Value} {below : List Frame} {meth : Method} {c : Code} {cells slots : Nat} {Q : State → Prop}
/-- a loop: a state of it, what holds there, a measure that falls -/
theorem x_loop {σ : Type} (g : σ → JFrame) (Hh : σ → Heap) (Lc : σ → List Loc) (I : σ → Prop) (μ : σ → Nat) {s0 : σ} (h0 : I s0)
    (step : ∀ z, I z → (∀ z', I z' → μ z' < μ z → W p l e R s m args below meth c (Hh z') (Lc z') cells slots Q (g z')) → W p l e R s m args below meth c (Hh z) (Lc z) cells slots Q (g z)) : W p l e R s m args below meth c (Hh s0) (Lc s0) cells slots Q (g s0) := by
  have key : ∀ (n : Nat) (z : σ), I z → μ z < n → W p l e R s m args below meth c (Hh z) (Lc z) cells slots Q (g z) := by
    intro n
    induction n with
    | zero => intro z _ h; exact absurd h (Nat.not_lt_zero _)
    | succ n ih => intro z hz hn; exact step z hz (fun z' hz' hm => ih z' hz' (by omega))
  exact key (μ s0 + 1) s0 h0 (Nat.lt_succ_self _)
end XL
