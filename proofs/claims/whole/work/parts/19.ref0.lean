/-! THE REFERENCE: an object at b, its fifteen rows behind it -/
def m_ty (k : Nat) : Nat := [0, 0, 0, 3, 3, 3, 3, 0, 0, 3, 3, 3, 3, 3, 3, 0].getD k 0
def m_len (k : Nat) : Nat := [0, 400, 100, 320, 320, 320, 320, 32000, 128000, 200, 200, 200, 60, 60, 60, 6000].getD k 0
abbrev m_G : Type := Nat → Nat → Int32
/-- the rows -/
def m_R (D : va_G) (A : Nat → ClassId) (b : Nat) (G : m_G) (H : Heap) : Prop := ∀ k, 1 ≤ k → k ≤ 15 → va_at D x_cl (b + k, .inl (A (m_ty k), m_len k, .inl (G k))) H
/-- the object -/
def m_fs (b : Nat) (v0 v1 v2 v3 v4 v5 v6 v7 : Int32) : List Value := [.int v0, .ref (b + 1), .ref (b + 2), .int v1, .int v2, .ref (b + 3), .ref (b + 4), .ref (b + 5), .ref (b + 6), .ref (b + 7), .ref (b + 8), .int v3, .int v4, .int v5, .int v6, .ref (b + 9), .ref (b + 10), .ref (b + 11), .int v7, .ref (b + 12), .ref (b + 13), .ref (b + 14), .ref (b + 15)]
abbrev m_O (D : va_G) (b : Nat) (v0 v1 v2 v3 v4 v5 v6 v7 : Int32) (H : Heap) : Prop := va_at D x_cl (b, .inr (8, m_fs b v0 v1 v2 v3 v4 v5 v6 v7)) H
def m_K (b : Nat) (H H1 : Heap) : Prop := H1.size = H.size ∧ ∀ q : Nat, (q < b ∨ b + 15 < q) → H1[q]? = H[q]?
def m_up (G : m_G) (k : Nat) (f : Nat → Int32) : m_G := fun j => if j = k then f else G j
def m_fq (b : Nat) : Nat → Prop := fun q => b ≤ q ∧ q ≤ b + 15
theorem m_up_self (G : m_G) (k : Nat) (f : Nat → Int32) : m_up G k f k = f := if_pos rfl
theorem m_up_ne (G : m_G) {k j : Nat} (f : Nat → Int32) (h : j ≠ k) : m_up G k f j = G j := if_neg h
theorem m_up_id (G : m_G) (k : Nat) : m_up G k (G k) = G := by
  funext j
  by_cases h : j = k
  · rw [h, m_up_self]
  · rw [m_up_ne _ _ h]
theorem m_up_up (G : m_G) (k : Nat) (f g : Nat → Int32) : m_up (m_up G k f) k g = m_up G k g := by
  funext j
  by_cases h : j = k
  · rw [h, m_up_self, m_up_self]
  · rw [m_up_ne _ _ h, m_up_ne _ _ h, m_up_ne _ _ h]
theorem m_K.refl {b : Nat} {H : Heap} : m_K b H H := ⟨rfl, fun _ _ => rfl⟩
theorem m_K.trans {b : Nat} {H H1 H2 : Heap} (h : m_K b H H1) (h2 : m_K b H1 H2) : m_K b H H2 := ⟨h2.1.trans h.1, fun q hq => (h2.2 q hq).trans (h.2 q hq)⟩
theorem m_K.but {b k : Nat} {H H1 : Heap} (h : x_but (b + k) H H1) (hk : k ≤ 15) : m_K b H H1 := ⟨h.1, fun q hq => h.2 q (by omega)⟩
theorem m_K.but0 {b : Nat} {H H1 : Heap} (h : x_but b H H1) : m_K b H H1 := ⟨h.1, fun q hq => h.2 q (by omega)⟩
theorem m_R.but0 {D : va_G} {A : Nat → ClassId} {b : Nat} {G : m_G} {H H1 : Heap} (h : m_R D A b G H) (hb : x_but b H H1) : m_R D A b G H1 := fun k h1 h2 => hb.at (h k h1 h2) (by omega)
theorem m_R.up {D : va_G} {A : Nat → ClassId} {b k : Nat} {G : m_G} {f : Nat → Int32} {H H1 : Heap} (h : m_R D A b G H) (hb : x_but (b + k) H H1) (hn : va_at D x_cl (b + k, .inl (A (m_ty k), m_len k, .inl f)) H1) : m_R D A b (m_up G k f) H1 := fun j h1 h2 => by
  by_cases e : j = k
  · subst e
    rw [m_up_self]
    exact hn
  · rw [m_up_ne _ _ e]
    exact hb.at (h j h1 h2) (by omega)
theorem m_len_lt (k : Nat) : m_len k < 2 ^ 31 := by
  unfold m_len
  match k with
  | 0 | 1 | 2 | 3 | 4 | 5 | 6 | 7 | 8 | 9 | 10 | 11 | 12 | 13 | 14 | 15 => decide
  | k + 16 => exact (by decide : (0 : Nat) < 2 ^ 31)
section ML
variable {p : Program} {l : Launch} {e : Env} {R : Room} {s : State} {m : MethodId} {args : Array Value} {below : List Frame} {meth : Method} {c : Code} {H H0 : Heap} {locs : List Loc} {cells slots : Nat} {Q : State → Prop}
variable {cc : ByteArray} {pc : Nat} {ls : Array Slot} {rest : List Value} {D : va_G} {A : Nat → ClassId} {b : Nat} {G : m_G}
theorem m_ild (hexec : p.tables.exec = Jvm.exec) (hb : c.code = cc) (hK : va_K D x_cl (x_tys A) s) (hR : m_R D A b G H) (k : Nat) (h1 : 1 ≤ k) (h2 : k ≤ 15) (ht : m_ty k = 3) {i : Nat} (hi : i < m_len k) (hdg : decode cc pc = .ok (.iaload, 1))
    (kk : W p l e R s m args below meth c H locs cells slots Q (F0 m (pc + 1) ls (.int (G k i) :: rest))) : W p l e R s m args below meth c H locs cells slots Q (F0 m pc ls (.int (nI i) :: .ref (b + k) :: rest)) := by
  have hl := m_len_lt k
  refine x_iald hexec hb hK 3 (hR k h1 h2) (by rw [ht]; rfl) (vp_in_nI hi hl) hdg ?_
  rw [nI_clamp (by omega)]
  exact kk
theorem m_bld (hexec : p.tables.exec = Jvm.exec) (hb : c.code = cc) (hK : va_K D x_cl (x_tys A) s) (hR : m_R D A b G H) (k : Nat) (h1 : 1 ≤ k) (h2 : k ≤ 15) (ht : m_ty k = 0) {i : Nat} (hi : i < m_len k) (hdg : decode cc pc = .ok (.baload, 1))
    (kk : W p l e R s m args below meth c H locs cells slots Q (F0 m (pc + 1) ls (.int (G k i) :: rest))) : W p l e R s m args below meth c H locs cells slots Q (F0 m pc ls (.int (nI i) :: .ref (b + k) :: rest)) := by
  have hl := m_len_lt k
  refine x_bald hexec hb hK 0 (hR k h1 h2) (by rw [ht]; rfl) (vp_in_nI hi hl) hdg ?_
  rw [nI_clamp (by omega)]
  exact kk
theorem m_ist (hexec : p.tables.exec = Jvm.exec) (hb : c.code = cc) (hK : va_K D x_cl (x_tys A) s) {fs : List Value} (ho : va_at D x_cl (b, .inr (8, fs)) H) (hM : m_K b H0 H) (hL : ∀ q ∈ locs, m_fq b q.base) (hR : m_R D A b G H) (k : Nat) (h1 : 1 ≤ k) (h2 : k ≤ 15) (ht : m_ty k = 3) {i : Nat} {x : Int32} (hi : i < m_len k) (hdg : decode cc pc = .ok (.iastore, 1))
    (kk : ∀ (H1 : Heap) (locs1 : List Loc), va_at D x_cl (b, .inr (8, fs)) H1 → m_K b H0 H1 → (∀ q ∈ locs1, m_fq b q.base) → m_R D A b (m_up G k (upd (G k) i x)) H1 → W p l e R s m args below meth c H1 locs1 cells slots Q (F0 m (pc + 1) ls rest)) : W p l e R s m args below meth c H locs cells slots Q (F0 m pc ls (.int x :: .int (nI i) :: .ref (b + k) :: rest)) := by
  have hl := m_len_lt k
  refine x_iast (F := m_fq b) hexec hb hK 3 (hR k h1 h2) hL ⟨by omega, by omega⟩ (by rw [ht]; rfl) (vp_in_nI hi hl) hdg (fun H1 locs1 e1 e2 e3 => ?_)
  rw [nI_clamp (by omega)] at e1
  exact kk H1 locs1 (e2.at ho (by omega)) (hM.trans (.but e2 h2)) e3 (hR.up e2 e1)
theorem m_bst (hexec : p.tables.exec = Jvm.exec) (hb : c.code = cc) (hK : va_K D x_cl (x_tys A) s) {fs : List Value} (ho : va_at D x_cl (b, .inr (8, fs)) H) (hM : m_K b H0 H) (hL : ∀ q ∈ locs, m_fq b q.base) (hR : m_R D A b G H) (k : Nat) (h1 : 1 ≤ k) (h2 : k ≤ 15) (ht : m_ty k = 0) {i : Nat} {x : Int32} (hi : i < m_len k) (hx8 : vp_nar .byte x = x) (hdg : decode cc pc = .ok (.bastore, 1))
    (kk : ∀ (H1 : Heap) (locs1 : List Loc), va_at D x_cl (b, .inr (8, fs)) H1 → m_K b H0 H1 → (∀ q ∈ locs1, m_fq b q.base) → m_R D A b (m_up G k (upd (G k) i x)) H1 → W p l e R s m args below meth c H1 locs1 cells slots Q (F0 m (pc + 1) ls rest)) : W p l e R s m args below meth c H locs cells slots Q (F0 m pc ls (.int x :: .int (nI i) :: .ref (b + k) :: rest)) := by
  have hl := m_len_lt k
  refine x_bast (F := m_fq b) hexec hb hK 0 (hR k h1 h2) hL ⟨by omega, by omega⟩ (by rw [ht]; rfl) (vp_in_nI hi hl) hdg (fun H1 locs1 e1 e2 e3 => ?_)
  rw [nI_clamp (by omega), hx8] at e1
  exact kk H1 locs1 (e2.at ho (by omega)) (hM.trans (.but e2 h2)) e3 (hR.up e2 e1)
end ML
theorem m_nar (u : Nat) : vp_nar .byte (sb_b u) = sb_b u := by
  unfold sb_b
  exact pk_vb _
/-- entry e of the rows holds the file f -/
def m_e (G : m_G) (e : Nat) (f : g_F) : Prop := (G 3 e = f.1.1 ∧ G 4 e = f.1.2.1) ∧ (G 5 e = nI f.1.2.2.length ∧ f.1.2.2.length ≤ 100 ∧ (∀ k, k < f.1.2.2.length → G 7 (100 * e + k) = sb_b (f.1.2.2.getD k 0)) ∧ ∀ u ∈ f.1.2.2, u < 256) ∧ (G 6 e = nI f.2.length ∧ f.2.length ≤ 400 ∧ (∀ k, k < f.2.length → G 8 (400 * e + k) = sb_b (f.2.getD k 0)) ∧ ∀ u ∈ f.2, u < 256)
/-- no entry but t differs, nor any other row -/
def m_fr (t : Nat) (G G' : m_G) : Prop := (∀ e, e ≠ t → (∀ k, 3 ≤ k → k ≤ 6 → G' k e = G k e) ∧ (∀ k, k < 100 → G' 7 (100 * e + k) = G 7 (100 * e + k)) ∧ (∀ k, k < 400 → G' 8 (400 * e + k) = G 8 (400 * e + k))) ∧ ∀ k, (k < 3 ∨ 8 < k) → G' k = G k
theorem m_fr.refl {t : Nat} {G : m_G} : m_fr t G G := ⟨fun _ _ => ⟨fun _ _ _ => rfl, fun _ _ => rfl, fun _ _ => rfl⟩, fun _ _ => rfl⟩
theorem m_fr.trans {t : Nat} {G G1 G2 : m_G} (h : m_fr t G G1) (h2 : m_fr t G1 G2) : m_fr t G G2 := ⟨fun e he => ⟨fun k a b => ((h2.1 e he).1 k a b).trans ((h.1 e he).1 k a b), fun k a => ((h2.1 e he).2.1 k a).trans ((h.1 e he).2.1 k a), fun k a => ((h2.1 e he).2.2 k a).trans ((h.1 e he).2.2 k a)⟩, fun k a => (h2.2 k a).trans (h.2 k a)⟩
theorem m_fr.e {t e : Nat} {G G' : m_G} {f : g_F} (h : m_fr t G G') (he : e ≠ t) (hf : m_e G e f) : m_e G' e f := by
  obtain ⟨a, b, c⟩ := h.1 e he
  obtain ⟨⟨f1, f2⟩, ⟨f3, f4, f5, f6⟩, f7, f8, f9, f10⟩ := hf
  exact ⟨⟨(a 3 (by decide) (by decide)).trans f1, (a 4 (by decide) (by decide)).trans f2⟩, ⟨(a 5 (by decide) (by decide)).trans f3, f4, fun k hk => (b k (by omega)).trans (f5 k hk), f6⟩, (a 6 (by decide) (by decide)).trans f7, f8, fun k hk => (c k (by omega)).trans (f9 k hk), f10⟩
theorem m_fr.set {t k : Nat} {G : m_G} {x : Int32} (h1 : 3 ≤ k) (h2 : k ≤ 6) : m_fr t G (m_up G k (upd (G k) t x)) := ⟨fun e he => ⟨fun j a b => by
    by_cases q : j = k
    · subst q
      rw [m_up_self, pk_un he]
    · rw [m_up_ne _ _ q], fun j _ => by rw [m_up_ne _ _ (by omega)], fun j _ => by rw [m_up_ne _ _ (by omega)]⟩, fun j hj => m_up_ne _ _ (by omega)⟩
theorem m_fr.p {t i : Nat} {G : m_G} {x : Int32} (hi : i < 100) : m_fr t G (m_up G 7 (upd (G 7) (100 * t + i) x)) := ⟨fun e he => ⟨fun j a b => by rw [m_up_ne _ _ (by omega)], fun j _ => by rw [m_up_self, pk_un (by omega)], fun j _ => by rw [m_up_ne _ _ (by decide)]⟩, fun j hj => m_up_ne _ _ (by omega)⟩
theorem m_fr.c {t i : Nat} {G : m_G} {x : Int32} (hi : i < 400) : m_fr t G (m_up G 8 (upd (G 8) (400 * t + i) x)) := ⟨fun e he => ⟨fun j a b => by rw [m_up_ne _ _ (by omega)], fun j _ => by rw [m_up_ne _ _ (by decide)], fun j _ => by rw [m_up_self, pk_un (by omega)]⟩, fun j hj => m_up_ne _ _ (by omega)⟩

