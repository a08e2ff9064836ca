/-! THE ORDER of names by keys; files of the class and of the reference side by side -/
def k_u (u : Nat) : Nat := if u = 47 then 1 else 2 + u
theorem k_u_inj {u v : Nat} (h : k_u u = k_u v) : u = v := by
  unfold k_u at h
  split at h <;> split at h <;> omega
def k_i (x : Int32) : Nat := (x.toInt + 2147483648).toNat
theorem k_i_lt {x y : Int32} : k_i x < k_i y ↔ x < y := by
  have h1 := x.le_toInt
  have h2 := y.le_toInt
  unfold k_i
  rw [Int32.lt_iff_toInt_lt]
  omega
theorem k_i_eq {x y : Int32} : k_i x = k_i y ↔ x = y := by
  have h1 := x.le_toInt
  have h2 := y.le_toInt
  unfold k_i
  rw [← Int32.toInt_inj]
  omega
def k_n (n : g_N) : List Nat := k_i n.1 :: k_i n.2.1 :: n.2.2.map k_u
theorem k_po : ∀ {us vs : List Nat}, g_okp us → g_okp vs → (g_po us vs < 0 ↔ us.map k_u < vs.map k_u)
  | [], [], _, _ => by
    show nI 0 - nI 0 < 0 ↔ ([] : List Nat) < []
    rw [x_subneg (by decide) (by decide)]
    exact ⟨fun h => absurd h (by decide), fun h => absurd h (List.not_lt_nil _)⟩
  | [], y :: b, _, h2 => by
    have := h2.1
    show nI 0 - nI (y :: b).length < 0 ↔ ([] : List Nat) < k_u y :: b.map k_u
    rw [x_subneg (by decide) (by omega)]
    exact ⟨fun _ => List.nil_lt_cons _ _, fun _ => by rw [List.length_cons]; omega⟩
  | x :: a, [], h1, _ => by
    have := h1.1
    show nI (x :: a).length - nI 0 < 0 ↔ (k_u x :: a.map k_u) < []
    rw [x_subneg (by omega) (by decide)]
    exact ⟨fun h => absurd h (Nat.not_lt_zero _), fun h => absurd h (List.not_lt_nil _)⟩
  | x :: a, y :: b, h1, h2 => by
    have hx := h1.2 x List.mem_cons_self
    have hy := h2.2 y List.mem_cons_self
    have ih := @k_po a b ⟨by have := h1.1; rw [List.length_cons] at this; omega, fun u hu => h1.2 u (List.mem_cons_of_mem _ hu)⟩ ⟨by have := h2.1; rw [List.length_cons] at this; omega, fun u hu => h2.2 u (List.mem_cons_of_mem _ hu)⟩
    show (if x = y then g_po a b else if x = 47 then -1 else if y = 47 then 1 else nI x - nI y) < 0 ↔ (k_u x :: a.map k_u) < (k_u y :: b.map k_u)
    rw [List.cons_lt_cons_iff]
    by_cases e : x = y
    · rw [if_pos e, ih, e]
      exact ⟨fun h => Or.inr ⟨rfl, h⟩, fun h => h.elim (fun h => absurd h (Nat.lt_irrefl _)) (fun h => h.2)⟩
    · rw [if_neg e]
      have hne : ¬ k_u x = k_u y := fun h => e (k_u_inj h)
      have hk : (if x = 47 then (-1 : Int32) else if y = 47 then 1 else nI x - nI y) < 0 ↔ k_u x < k_u y := by
        unfold k_u at *
        by_cases e1 : x = 47
        · rw [if_pos e1, if_pos e1]
          exact ⟨fun _ => by rw [if_neg (by omega)]; omega, fun _ => by decide⟩
        · rw [if_neg e1, if_neg e1]
          by_cases e2 : y = 47
          · rw [if_pos e2, if_pos e2]
            exact ⟨fun h => absurd h (by decide), fun h => by omega⟩
          · rw [if_neg e2, if_neg e2, x_subneg (by omega) (by omega)]
            omega
      rw [hk]
      exact ⟨fun h => Or.inl h, fun h => h.elim id (fun h => absurd h.1 hne)⟩
theorem k_lt {a b : g_N} (ha : g_okp a.2.2) (hb : g_okp b.2.2) : g_no a b < 0 ↔ k_n a < k_n b := by
  unfold g_no k_n
  rw [List.cons_lt_cons_iff, List.cons_lt_cons_iff, k_i_lt, k_i_lt, k_i_eq, k_i_eq]
  by_cases e1 : a.1 = b.1
  · rw [if_pos e1]
    have n1 : ¬ a.1 < b.1 := by rw [e1]; exact Int32.lt_irrefl
    by_cases e2 : a.2.1 = b.2.1
    · rw [if_pos e2, k_po ha hb]
      have n2 : ¬ a.2.1 < b.2.1 := by rw [e2]; exact Int32.lt_irrefl
      exact ⟨fun h => Or.inr ⟨e1, Or.inr ⟨e2, h⟩⟩, fun h => h.elim (fun h => absurd h n1) (fun h => h.2.elim (fun h => absurd h n2) (fun h => h.2))⟩
    · rw [if_neg e2, g_cmp_neg]
      exact ⟨fun h => Or.inr ⟨e1, Or.inl h⟩, fun h => h.elim (fun h => absurd h n1) (fun h => h.2.elim id (fun h => absurd h.1 e2))⟩
  · rw [if_neg e1, g_cmp_neg]
    exact ⟨fun h => Or.inl h, fun h => h.elim id (fun h => absurd h.1 e1)⟩
theorem k_inj {a b : g_N} (h : k_n a = k_n b) : a = b := by
  obtain ⟨a1, a2, a3⟩ := a
  obtain ⟨b1, b2, b3⟩ := b
  unfold k_n at h
  injection h with h1 h
  injection h with h2 h3
  rw [k_i_eq] at h1 h2
  have h4 : a3 = b3 := (List.map_inj_right (fun x y e => k_u_inj e)).mp h3
  dsimp only at h1 h2 h4
  rw [h1, h2, h4]
def g_srt (c : List g_F) : Prop := c.Pairwise (fun f g => k_n f.1 < k_n g.1)
def g_dn (c : List g_F) : Prop := c.Pairwise (fun f g => f.1 ≠ g.1)
def g_oks (c : List g_F) : Prop := ∀ f ∈ c, g_okp f.1.2.2
theorem g_srt.dn {c : List g_F} (h : g_srt c) : g_dn c := h.imp (fun {f g} q e => by rw [e] at q; exact List.lt_irrefl _ q)
theorem g_dn.perm {c m : List g_F} (h : g_dn c) (p : c.Perm m) : g_dn m := List.Pairwise.perm h p (fun q e => q e.symm)
theorem g_dn.eq {c : List g_F} (h : g_dn c) {f g : g_F} (hf : f ∈ c) (hg : g ∈ c) (e : f.1 = g.1) : f = g := by
  induction c with
  | nil => cases hf
  | cons a c ih =>
    have h2 := List.pairwise_cons.mp h
    rcases List.mem_cons.mp hf with hf2 | hf2
    · rcases List.mem_cons.mp hg with hg2 | hg2
      · rw [hf2, hg2]
      · exact absurd (hf2 ▸ e) (h2.1 g hg2)
    · rcases List.mem_cons.mp hg with hg2 | hg2
      · exact absurd (hg2 ▸ e.symm) (h2.1 f hf2)
      · exact ih h2.2 hf2 hg2
theorem g_oks.perm {c m : List g_F} (h : g_oks c) (p : c.Perm m) : g_oks m := fun f hf => h f (p.mem_iff.mpr hf)
theorem g_oks.sub {c m : List g_F} (h : g_oks c) (p : m.Sublist c) : g_oks m := fun f hf => h f (p.subset hf)
theorem g_found {c : List g_F} {n : g_N} {i : Nat} (ho : g_oks c) (hn : g_okp n.2.2) (h : g_find c n = some i) : ∃ f, c[i]? = some f ∧ f.1 = n := by
  obtain ⟨h1, h2, -⟩ := List.findIdx?_eq_some_iff_getElem.mp h
  refine ⟨c[i], List.getElem?_eq_getElem h1, ?_⟩
  exact ((g_no0 hn (ho _ (List.getElem_mem h1))).mp (of_decide_eq_true h2)).symm
theorem g_absent {c : List g_F} {n : g_N} (ho : g_oks c) (hn : g_okp n.2.2) (h : g_find c n = none) : ∀ f ∈ c, f.1 ≠ n := fun f hf e => by
  have h2 := List.findIdx?_eq_none_iff.mp h f hf
  have h3 : g_no n f.1 = 0 := (g_no0 hn (ho f hf)).mpr e.symm
  rw [h3] at h2
  exact absurd h2 (by decide)
theorem g_findN {c : List g_F} {n : g_N} (ho : g_oks c) (hn : g_okp n.2.2) (h : ∀ f ∈ c, f.1 ≠ n) : g_find c n = none := by
  cases e : g_find c n with
  | none => rfl
  | some i =>
    obtain ⟨f, h1, h2⟩ := g_found ho hn e
    exact absurd h2 (h f (List.mem_of_getElem? h1))
theorem g_findS {c : List g_F} {n : g_N} (ho : g_oks c) (hn : g_okp n.2.2) {f : g_F} (hf : f ∈ c) (h : f.1 = n) : ∃ i, g_find c n = some i := by
  cases e : g_find c n with
  | none => exact absurd h (g_absent ho hn e f hf)
  | some i => exact ⟨i, rfl⟩
theorem er_perm {α : Type} : ∀ {c : List α} {i : Nat} {f : α}, c[i]? = some f → (f :: c.eraseIdx i).Perm c
  | [], i, f, h => by simp at h
  | a :: c, 0, f, h => by
    have e : a = f := by simpa using h
    rw [e]
    exact List.Perm.refl _
  | a :: c, i + 1, f, h => (List.Perm.swap a f _).trans ((er_perm (c := c) (i := i) (by simpa using h)).cons a)
theorem set_perm {α : Type} (x : α) : ∀ {c : List α} {i : Nat} {f : α}, c[i]? = some f → (c.set i x).Perm (x :: c.eraseIdx i)
  | [], i, f, h => by simp at h
  | a :: c, 0, f, h => List.Perm.refl _
  | a :: c, i + 1, f, h => ((set_perm x (c := c) (i := i) (f := f) (by simpa using h)).cons a).trans (List.Perm.swap x a _)
theorem drop_perm {c : List g_F} {i : Nat} {g : g_F} (h : c[i]? = some g) : (m_drop c i).Perm (c.eraseIdx i) := by
  have hi := (List.getElem?_eq_some_iff.mp h).1
  obtain ⟨f, hf⟩ := g_ex (as := c) (j := c.length - 1) (by omega)
  have hl : c.getLast? = some f := by rw [List.getLast?_eq_getElem?]; exact hf
  rw [m_drop_last hl]
  have h1 : (c.set i f).getLast? = some f := by
    rw [List.getLast?_eq_getElem?, List.length_set, List.getElem?_set]
    by_cases e : i = c.length - 1
    · rw [if_pos e, if_pos (by omega)]
    · rw [if_neg e]; exact hf
  have h2 : (c.set i f).dropLast ++ [f] = c.set i f := by
    obtain ⟨ys, hy⟩ := List.getLast?_eq_some_iff.mp h1
    rw [hy, List.dropLast_concat]
  have h3 : (f :: (c.set i f).dropLast).Perm (f :: c.eraseIdx i) := ((List.perm_append_singleton f _).symm.trans (List.Perm.of_eq h2)).trans (set_perm f h)
  exact h3.cons_inv
theorem rem_some {c : List g_F} {n : g_N} {i : Nat} (h : g_find c n = some i) : g_rem c n = c.eraseIdx i := by
  unfold g_rem
  rw [h]
theorem rem_none {c : List g_F} {n : g_N} (h : g_find c n = none) : g_rem c n = c := by
  unfold g_rem
  rw [h]
theorem rem_sub (c : List g_F) (n : g_N) : (g_rem c n).Sublist c := by
  cases h : g_find c n with
  | none => rw [rem_none h]; exact List.Sublist.refl _
  | some i => rw [rem_some h]; exact List.eraseIdx_sublist _ _
theorem rem_abs {c : List g_F} {n : g_N} (hd : g_dn c) (ho : g_oks c) (hn : g_okp n.2.2) : ∀ f ∈ g_rem c n, f.1 ≠ n := by
  cases h : g_find c n with
  | none => rw [rem_none h]; exact g_absent ho hn h
  | some i =>
    rw [rem_some h]
    obtain ⟨f, h1, h2⟩ := g_found ho hn h
    have h3 := List.pairwise_cons.mp (hd.perm (er_perm h1).symm)
    exact fun g hg e => h3.1 g hg (h2.trans e.symm)
theorem rem_id {c : List g_F} {n : g_N} (ho : g_oks c) (hn : g_okp n.2.2) (h : ∀ f ∈ c, f.1 ≠ n) : g_rem c n = c := rem_none (g_findN ho hn h)
theorem rem_perm {c m : List g_F} {n : g_N} (p : c.Perm m) (hd : g_dn c) (ho : g_oks c) (hn : g_okp n.2.2) : (g_rem c n).Perm (g_rem m n) := by
  have hom := ho.perm p
  cases h : g_find c n with
  | none =>
    rw [rem_none h, rem_id hom hn (fun f hf => g_absent ho hn h f (p.mem_iff.mpr hf))]
    exact p
  | some i =>
    obtain ⟨f, h1, h2⟩ := g_found ho hn h
    obtain ⟨j, hj⟩ := g_findS hom hn (p.mem_iff.mp (List.mem_of_getElem? h1)) h2
    obtain ⟨g, h3, h4⟩ := g_found hom hn hj
    have e : f = g := hd.eq (List.mem_of_getElem? h1) (p.mem_iff.mpr (List.mem_of_getElem? h3)) (h2.trans h4.symm)
    subst e
    rw [rem_some h, rem_some hj]
    exact (((er_perm h1).trans p).trans (er_perm h3).symm).cons_inv
theorem get_perm {c m : List g_F} {n : g_N} (p : c.Perm m) (hd : g_dn c) (ho : g_oks c) (hn : g_okp n.2.2) : g_get c n = g_get m n := by
  have hom := ho.perm p
  cases h : g_find c n with
  | none => rw [g_get_none h, g_get_none (g_findN hom hn (fun f hf => g_absent ho hn h f (p.mem_iff.mpr hf)))]
  | some i =>
    obtain ⟨f, h1, h2⟩ := g_found ho hn h
    obtain ⟨j, hj⟩ := g_findS hom hn (p.mem_iff.mp (List.mem_of_getElem? h1)) h2
    obtain ⟨g, h3, h4⟩ := g_found hom hn hj
    have e : f = g := hd.eq (List.mem_of_getElem? h1) (p.mem_iff.mpr (List.mem_of_getElem? h3)) (h2.trans h4.symm)
    subst e
    rw [g_get_some h h1, g_get_some hj h3]
/-- where a file goes: those before it are less, those behind it are more -/
theorem pos_spec {c : List g_F} {n : g_N} (hs : g_srt c) (ho : g_oks c) (hn : g_okp n.2.2) (ha : ∀ f ∈ c, f.1 ≠ n) : ∀ k, k ≤ c.length → (∀ (j : Nat) (f : g_F), j < g_pos c n k → c[j]? = some f → k_n f.1 < k_n n) ∧ (∀ (j : Nat) (f : g_F), g_pos c n k ≤ j → j < k → c[j]? = some f → k_n n < k_n f.1)
  | 0, _ => ⟨fun j f h => absurd h (Nat.not_lt_zero j), fun j f _ h => absurd h (Nat.not_lt_zero j)⟩
  | k + 1, hk => by
    obtain ⟨e, he⟩ := g_ex (as := c) (j := k) hk
    have hok := ho e (List.mem_of_getElem? he)
    by_cases hlt : g_no n e.1 < 0
    · obtain ⟨h1, h2⟩ := pos_spec hs ho hn ha k (by omega)
      rw [g_pos_step he hlt]
      refine ⟨h1, fun j f a b hf => ?_⟩
      rcases Nat.eq_or_lt_of_le (Nat.le_of_lt_succ b) with q | q
      · subst q
        rw [he] at hf
        cases hf
        exact (k_lt hn hok).mp hlt
      · exact h2 j f a q hf
    · rw [g_pos_stop he hlt]
      refine ⟨fun j f a hf => ?_, fun j f a b => by omega⟩
      have h3 : k_n e.1 < k_n n := by
        have h4 : ¬ k_n n < k_n e.1 := fun q => hlt ((k_lt hn hok).mpr q)
        have h5 : ¬ k_n e.1 = k_n n := fun q => ha e (List.mem_of_getElem? he) (k_inj q)
        rcases List.le_iff_lt_or_eq.mp (List.not_lt.mp h4) with q | q
        · exact q
        · exact absurd q h5
      rcases Nat.eq_or_lt_of_le (Nat.le_of_lt_succ a) with q | q
      · subst q
        rw [he] at hf
        cases hf
        exact h3
      · obtain ⟨hj, ej⟩ := List.getElem?_eq_some_iff.mp hf
        obtain ⟨hk2, ek⟩ := List.getElem?_eq_some_iff.mp he
        have h6 := List.pairwise_iff_getElem.mp hs j k hj hk2 q
        rw [ej, ek] at h6
        exact List.lt_trans h6 h3
theorem ins_srt {c : List g_F} {f : g_F} (hs : g_srt c) (ho : g_oks c) (hn : g_okp f.1.2.2) (ha : ∀ g ∈ c, g.1 ≠ f.1) (hl : c.length < 60) : g_srt (g_ins c f) ∧ (g_ins c f).Perm (f :: c) := by
  have hp := g_pos_le c f.1 c.length
  have hi : g_ins c f = c.insertIdx (g_pos c f.1 c.length) f := by
    unfold g_ins
    rw [if_neg (by omega)]
  rw [hi]
  refine ⟨?_, List.perm_insertIdx f c hp⟩
  obtain ⟨h1, h2⟩ := pos_spec hs ho hn ha c.length (Nat.le_refl _)
  generalize g_pos c f.1 c.length = p at *
  refine List.pairwise_iff_getElem.mpr (fun i j hi hj hij => ?_)
  have hs2 : ∀ (a b : Nat) (x y : g_F), a < b → c[a]? = some x → c[b]? = some y → k_n x.1 < k_n y.1 := fun a b x y hab hx hy => by
    obtain ⟨q1, e1⟩ := List.getElem?_eq_some_iff.mp hx
    obtain ⟨q2, e2⟩ := List.getElem?_eq_some_iff.mp hy
    have h6 := List.pairwise_iff_getElem.mp hs a b q1 q2 hab
    rw [e1, e2] at h6
    exact h6
  have hlt : ∀ (a : Nat) (x : g_F), c[a]? = some x → a < c.length := fun a x hx => (List.getElem?_eq_some_iff.mp hx).1
  rcases g_insIdx hp (List.getElem?_eq_getElem hi) with ⟨q, q1⟩ | ⟨q, q1⟩ | ⟨q, q1⟩ <;> rcases g_insIdx hp (List.getElem?_eq_getElem hj) with ⟨w, w1⟩ | ⟨w, w1⟩ | ⟨w, w1⟩
  · exact hs2 i j _ _ hij q1 w1
  · rw [w1]; exact h1 i _ q q1
  · exact hs2 i (j - 1) _ _ (by omega) q1 w1
  · omega
  · omega
  · rw [q1]; exact h2 (j - 1) _ (by omega) (hlt _ _ w1) w1
  · omega
  · omega
  · exact hs2 (i - 1) (j - 1) _ _ (by omega) q1 w1
