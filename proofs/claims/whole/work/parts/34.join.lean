/-! CLASS AND REFERENCE side by side -/
def j_P (c m : List g_F) : Prop := c.Perm m ∧ g_srt c ∧ g_oks c
/-- one operation, as the class holds it and as the reference does; c: the class's files before it -/
def j_op (c : List g_F) (co : g_O) (mo : m_P) : Prop := g_okp mo.2.2.2.1.2.2 ∧
  ((mo.1 = 0 ∧ co = (mo.2.2.2.1, some mo.2.2.2) ∧ (c.length < 60 ∨ ∃ f, g_get c mo.2.2.2.1 = some f)) ∨
   (mo.1 = 2 ∧ co = (mo.2.2.2.1, none) ∧ ∃ f, g_get c mo.2.2.2.1 = some f) ∨
   (mo.1 = 1 ∧ ∃ f, g_get c mo.2.2.2.1 = some f ∧ co = (mo.2.2.2.1, some ((mo.2.1, mo.2.2.1, mo.2.2.2.1.2.2), f.2))))
theorem get_name {c : List g_F} {n : g_N} {f : g_F} (ho : g_oks c) (hn : g_okp n.2.2) (h : g_get c n = some f) : f ∈ c ∧ f.1 = n := by
  obtain ⟨i, h1, h2⟩ := g_get_ex h
  obtain ⟨g, h3, h4⟩ := g_found ho hn h1
  rw [h2] at h3
  cases h3
  exact ⟨List.mem_of_getElem? h2, h4⟩
theorem rem_len {c : List g_F} {n : g_N} {i : Nat} (h : g_find c n = some i) : (g_rem c n).length = c.length - 1 := by
  rw [rem_some h, List.length_eraseIdx, if_pos (g_find_lt h)]
theorem j_ins {c m : List g_F} {f : g_F} (p : c.Perm m) (hs : g_srt c) (ho : g_oks c) (hn : g_okp f.1.2.2) (ha : ∀ g ∈ c, g.1 ≠ f.1) (hl : c.length < 60) {m2 : List g_F} (p2 : m2.Perm (f :: m)) : j_P (g_ins c f) m2 := by
  obtain ⟨h1, h2⟩ := ins_srt hs ho hn ha hl
  refine ⟨h2.trans ((p.cons f).trans p2.symm), h1, fun g hg => ?_⟩
  rcases List.mem_cons.mp (h2.mem_iff.mp hg) with e | e
  · rw [e]; exact hn
  · exact ho g e
theorem ins_len {c : List g_F} {f : g_F} (hl : c.length < 60) : (g_ins c f).length = c.length + 1 := by
  have hp := g_pos_le c f.1 c.length
  unfold g_ins
  rw [if_neg (by omega), List.length_insertIdx, if_pos hp]
theorem j_step {c m : List g_F} {co : g_O} {mo : m_P} (hP : j_P c m) (hl : c.length ≤ 60) (ho : j_op c co mo) : j_P (g_ap c co) (m_act m mo) ∧ m_ok m mo ∧ (g_ap c co).length ≤ 60 := by
  obtain ⟨p, hs, hok⟩ := hP
  obtain ⟨hn, ho⟩ := ho
  obtain ⟨ow, ots, ott, of⟩ := mo
  dsimp only at *
  have hd := hs.dn
  have hom := hok.perm p
  have hdm := hd.perm p
  have hml : m.length = c.length := p.length_eq.symm
  have r1 := rem_perm (n := of.1) p hd hok hn
  have s1 : (g_rem c of.1).Sublist c := rem_sub c of.1
  have a1 := rem_abs hd hok hn
  have k1 := hok.sub s1
  have t1 : g_srt (g_rem c of.1) := List.Pairwise.sublist s1 hs
  rcases ho with ⟨hw, hco, hroom⟩ | ⟨hw, hco, f, hf⟩ | ⟨hw, f, hf, hco⟩
  · subst hco
    have e1 : g_rem (g_rem c of.1) of.1 = g_rem c of.1 := rem_id k1 hn a1
    have hlt : (g_rem c of.1).length < 60 := by
      rcases hroom with h | ⟨f, h⟩
      · exact Nat.lt_of_le_of_lt s1.length_le h
      · obtain ⟨i, h1, -⟩ := g_get_ex h
        have := g_find_lt h1
        rw [rem_len h1]
        omega
    have e2 : g_ap c (of.1, some of) = g_ins (g_rem c of.1) of := by
      show g_ins (g_rem (g_rem c of.1) of.1) of = _
      rw [e1]
    rw [e2]
    have pm : (m_act m (ow, ots, ott, of)).Perm (of :: g_rem m of.1) := by
      cases hg : g_find m of.1 with
      | none =>
        have e : m_act m (ow, ots, ott, of) = m ++ [of] := by unfold m_act; dsimp only; rw [if_pos hw, hg]
        rw [e, rem_none hg]
        exact List.perm_append_singleton of m
      | some i =>
        have e : m_act m (ow, ots, ott, of) = m.set i of := by unfold m_act; dsimp only; rw [if_pos hw, hg]
        obtain ⟨g, h3, -⟩ := g_found hom hn hg
        rw [e, rem_some hg]
        exact set_perm of h3
    refine ⟨j_ins r1 t1 k1 hn a1 hlt pm, ?_, by rw [ins_len hlt]; exact hlt⟩
    rcases hroom with h | ⟨f, h⟩
    · exact Or.inl ⟨hw, by omega⟩
    · rw [get_perm p hd hok hn] at h
      obtain ⟨i, h1, -⟩ := g_get_ex h
      exact Or.inr ⟨i, h1⟩
  · subst hco
    have hfm := hf
    rw [get_perm p hd hok hn] at hfm
    obtain ⟨i, h1, h2⟩ := g_get_ex hfm
    have e : m_act m (ow, ots, ott, of) = m_drop m i := by
      unfold m_act
      dsimp only
      rw [if_neg (by rw [hw]; decide), if_pos hw, h1]
    refine ⟨⟨?_, t1, k1⟩, Or.inr ⟨i, h1⟩, Nat.le_trans s1.length_le hl⟩
    rw [e]
    show (g_rem c of.1).Perm _
    rw [rem_some h1] at r1
    exact r1.trans (drop_perm h2).symm
  · subst hco
    obtain ⟨fc, fn⟩ := get_name hok hn hf
    have hfm := hf
    rw [get_perm p hd hok hn] at hfm
    obtain ⟨i, h1, h2⟩ := g_get_ex hfm
    have hnt : g_okp ((ots, ott, of.1.2.2) : g_N).2.2 := hn
    have w0 : ¬ ow = 0 := by rw [hw]; decide
    have w2 : ¬ ow = 2 := by rw [hw]; decide
    obtain ⟨jc, hjc, -⟩ := g_get_ex hf
    have hlen1 : (g_rem c of.1).length < 60 := by
      have := g_find_lt hjc
      rw [rem_len hjc]
      omega
    refine ⟨?_, Or.inr ⟨i, h1⟩, ?_⟩
    · show j_P (g_ins (g_rem (g_rem c of.1) (ots, ott, of.1.2.2)) ((ots, ott, of.1.2.2), f.2)) _
      have r2 := rem_perm (n := (ots, ott, of.1.2.2)) r1 t1.dn k1 hnt
      have s2 := rem_sub (g_rem c of.1) (ots, ott, of.1.2.2)
      refine j_ins (f := ((ots, ott, of.1.2.2), f.2)) r2 (List.Pairwise.sublist s2 t1) (k1.sub s2) hnt (rem_abs t1.dn k1 hnt) (Nat.lt_of_le_of_lt s2.length_le hlen1) ?_
      have hmi : (f :: m.eraseIdx i).Perm m := er_perm h2
      rw [rem_some h1]
      have dW : g_dn (m.eraseIdx i) := List.Pairwise.sublist (List.eraseIdx_sublist _ _) hdm
      have oW : g_oks (m.eraseIdx i) := hom.sub (List.eraseIdx_sublist _ _)
      by_cases hsm : ots = of.1.1 ∧ ott = of.1.2.1
      · have e : m_act m (ow, ots, ott, of) = m := by
          unfold m_act
          dsimp only
          rw [if_neg w0, if_neg w2, if_pos hsm]
        have et : (ots, ott, of.1.2.2) = of.1 := by rw [hsm.1, hsm.2]
        rw [e, et]
        have ef : (of.1, f.2) = f := by rw [← fn]
        have e3 : g_rem (m.eraseIdx i) of.1 = m.eraseIdx i := by
          have a2 := rem_abs hdm hom hn
          rw [rem_some h1] at a2
          exact rem_id oW hn a2
        rw [ef, e3]
        exact hmi.symm
      · have hne : ¬ (ots, ott, of.1.2.2) = of.1 := fun q => hsm ⟨by rw [← q], by rw [← q]⟩
        have er : m_ren m i ots ott = m.set i ((ots, ott, of.1.2.2), f.2) := by rw [m_ren_some h2, fn]
        have ps := set_perm (((ots, ott, of.1.2.2), f.2) : g_F) h2
        cases hj : g_find m (ots, ott, of.1.2.2) with
        | none =>
          have e : m_act m (ow, ots, ott, of) = m_ren m i ots ott := by
            unfold m_act
            dsimp only
            rw [if_neg w0, if_neg w2, if_neg hsm, h1]
            dsimp only
            rw [hj]
          have e3 : g_rem (m.eraseIdx i) (ots, ott, of.1.2.2) = m.eraseIdx i := rem_id oW hnt (fun g hg => g_absent hom hnt hj g ((List.eraseIdx_sublist _ _).subset hg))
          rw [e, er, e3]
          exact ps
        | some j =>
          have e : m_act m (ow, ots, ott, of) = m_drop (m_ren m i ots ott) j := by
            unfold m_act
            dsimp only
            rw [if_neg w0, if_neg w2, if_neg hsm, h1]
            dsimp only
            rw [hj]
          obtain ⟨h, hh, hhn⟩ := g_found hom hnt hj
          have hij : ¬ i = j := fun q => by
            rw [← q, h2] at hh
            cases hh
            exact hne (hhn.symm.trans fn)
          have hsj : (m.set i ((ots, ott, of.1.2.2), f.2))[j]? = some h := by rw [List.getElem?_set, if_neg hij]; exact hh
          rw [e, er]
          refine (drop_perm hsj).trans ?_
          have hW : h ∈ m.eraseIdx i := by
            rcases List.mem_cons.mp (hmi.mem_iff.mpr (List.mem_of_getElem? hh)) with q | q
            · rw [q] at hhn
              exact absurd (hhn.symm.trans fn) hne
            · exact q
          obtain ⟨k, hk⟩ := g_findS oW hnt hW hhn
          obtain ⟨h', hh', hhn'⟩ := g_found oW hnt hk
          have e4 : h' = h := dW.eq (List.mem_of_getElem? hh') hW (hhn'.trans hhn.symm)
          subst e4
          rw [rem_some hk]
          have q1 := ((er_perm hsj).trans ps).trans (((er_perm hh').symm.cons _).trans (List.Perm.swap _ _ _))
          exact q1.cons_inv
    · show (g_ins (g_rem (g_rem c of.1) (ots, ott, of.1.2.2)) ((ots, ott, of.1.2.2), f.2)).length ≤ 60
      have s2 := rem_sub (g_rem c of.1) (ots, ott, of.1.2.2)
      have := s2.length_le
      rw [ins_len (by omega)]
      omega
/-- a list of one sort: sorted again -/
theorem j_fold : ∀ (L acc : List g_F), g_srt acc → g_oks acc → g_oks L → g_dn (acc ++ L) → (acc ++ L).length ≤ 60 → g_srt (L.foldl g_ins acc) ∧ (L.foldl g_ins acc).Perm (acc ++ L)
  | [], acc, h1, h2, h3, h4, h5 => ⟨h1, by rw [List.append_nil]; exact List.Perm.refl _⟩
  | f :: L, acc, h1, h2, h3, h4, h5 => by
    have hf := h3 f List.mem_cons_self
    have pm : (acc ++ f :: L).Perm (f :: (acc ++ L)) := List.perm_middle
    have h6 := List.pairwise_cons.mp (h4.perm pm)
    have hl : acc.length < 60 := by
      rw [List.length_append, List.length_cons] at h5
      omega
    obtain ⟨q1, q2⟩ := ins_srt h1 h2 hf (fun g hg e => h6.1 g (List.mem_append_left _ hg) e.symm) hl
    have q3 : (g_ins acc f ++ L).Perm (acc ++ f :: L) := (q2.append_right L).trans pm.symm
    obtain ⟨q4, q5⟩ := j_fold L (g_ins acc f) q1 (fun g hg => by
      rcases List.mem_cons.mp (q2.mem_iff.mp hg) with e | e
      · rw [e]; exact hf
      · exact h2 g e) (fun g hg => h3 g (List.mem_cons_of_mem _ hg)) (h4.perm q3.symm) (by rw [q3.length_eq]; exact h5)
    exact ⟨q4, q5.trans q3⟩
theorem j_lst {c m : List g_F} (hP : j_P c m) (hl : c.length ≤ 60) (x : Int32) : m_lst m x m.length = g_lst c x := by
  obtain ⟨p, hs, hok⟩ := hP
  unfold m_lst g_lst g_ofs
  rw [List.take_length]
  have pf := p.filter (fun f => decide (f.1.1 = x))
  have sf : (m.filter (fun f => decide (f.1.1 = x))).Sublist m := List.filter_sublist
  have hdm := hs.dn.perm p
  obtain ⟨q1, q2⟩ := j_fold (m.filter (fun f => decide (f.1.1 = x))) [] List.Pairwise.nil (fun f hf => by cases hf) ((hok.perm p).sub sf) (List.Pairwise.sublist sf hdm) (by
    have := sf.length_le
    have := p.length_eq
    rw [List.nil_append]
    omega)
  have sc : (c.filter (fun f => decide (f.1.1 = x))).Sublist c := List.filter_sublist
  obtain ⟨q3, q4⟩ := j_fold (c.filter (fun f => decide (f.1.1 = x))) [] List.Pairwise.nil (fun f hf => by cases hf) (hok.sub sc) (List.Pairwise.sublist sc hs.dn) (by
    have := sc.length_le
    rw [List.nil_append]
    omega)
  refine List.Perm.eq_of_pairwise (le := fun (f g : g_F) => k_n f.1 < k_n g.1) (fun a b _ _ h1 h2 => absurd (List.lt_trans h1 h2) (List.lt_irrefl _)) q1 q3 (q2.trans (pf.symm.trans q4.symm))
def j_os (kc : List g_F) (cos : List g_O) (mos : List m_P) : Prop := cos.length = mos.length ∧ ∀ (i : Nat) (co : g_O) (mo : m_P), cos[i]? = some co → mos[i]? = some mo → j_op (g_rep kc (cos.take i)) co mo
theorem j_reps {kc km : List g_F} {cos : List g_O} {mos : List m_P} (hP : j_P kc km) (hl : kc.length ≤ 60) (h : j_os kc cos mos) : ∀ i, i ≤ cos.length → j_P (g_rep kc (cos.take i)) ((mos.take i).foldl m_act km) ∧ (g_rep kc (cos.take i)).length ≤ 60
  | 0, _ => ⟨hP, hl⟩
  | i + 1, hi => by
    obtain ⟨h1, h2⟩ := j_reps hP hl h i (by omega)
    obtain ⟨co, hc⟩ := g_ex (as := cos) (j := i) hi
    obtain ⟨mo, hm⟩ := g_ex (as := mos) (j := i) (by rw [← h.1]; exact hi)
    obtain ⟨h3, h4, h5⟩ := j_step h1 h2 (h.2 i co mo hc hm)
    rw [m_fold hm, g_take hc, g_rep_app]
    exact ⟨h3, h5⟩
theorem j_oks {kc km : List g_F} {cos : List g_O} {mos : List m_P} (hP : j_P kc km) (hl : kc.length ≤ 60) (h : j_os kc cos mos) : ∀ (i : Nat) (o : m_P), mos[i]? = some o → m_ok ((mos.take i).foldl m_act km) o := fun i o ho => by
  have hi := (List.getElem?_eq_some_iff.mp ho).1
  obtain ⟨h1, h2⟩ := j_reps hP hl h i (by rw [h.1]; omega)
  obtain ⟨co, hc⟩ := g_ex (as := cos) (j := i) (by rw [h.1]; exact hi)
  exact (j_step h1 h2 (h.2 i co o hc ho)).2.1
/-- the two states that answer alike -/
def j_J (S : g_S) (M : m_S) : Prop := (M.1 = S.1 ∧ S.1.length ≤ 400 ∧ ∀ u ∈ S.1, u < 256) ∧ (M.2.1 = S.2.1 ∧ S.2.1.length ≤ 100 ∧ ∀ u ∈ S.2.1, u < 256) ∧ (S.2.2.1 = g_rep S.2.2.2.1 S.2.2.2.2.2.1 ∧ M.2.2.1 = M.2.2.2.2.1.foldl m_act M.2.2.2.1) ∧ (j_P S.2.2.2.1 M.2.2.2.1 ∧ S.2.2.2.1.length ≤ 60) ∧ j_os S.2.2.2.1 S.2.2.2.2.2.1 M.2.2.2.2.1 ∧ M.2.2.2.2.2.1 = S.2.2.2.2.2.2 ∧ M.2.2.2.2.2.2 = m_tell S.2.2.2.2.1
theorem j_J.now {S : g_S} {M : m_S} (h : j_J S M) : j_P S.2.2.1 M.2.2.1 ∧ S.2.2.1.length ≤ 60 := by
  obtain ⟨-, -, ⟨h1, h2⟩, ⟨h3, h4⟩, h5, -⟩ := h
  have := j_reps h3 h4 h5 S.2.2.2.2.2.1.length (Nat.le_refl _)
  rw [h1, h2]
  rw [List.take_length, h5.1, List.take_length] at this
  exact this
theorem j_J.okn {S : g_S} {M : m_S} (h : j_J S M) : g_okp S.2.1 := ⟨by have := h.2.1.2.1; omega, h.2.1.2.2⟩
theorem j_J.get {S : g_S} {M : m_S} (h : j_J S M) (x y : Int32) : g_get M.2.2.1 (x, y, M.2.1) = g_get S.2.2.1 (x, y, S.2.1) := by
  rw [h.2.1.1]
  exact (get_perm h.now.1.1 h.now.1.2.1.dn h.now.1.2.2 (n := (x, y, S.2.1)) h.okn).symm
theorem j_J.zero : j_J ([], [], [], [], [], [], 0) ([], [], [], [], [], 0, []) := ⟨⟨rfl, Nat.zero_le _, fun u hu => by cases hu⟩, ⟨rfl, Nat.zero_le _, fun u hu => by cases hu⟩, ⟨rfl, rfl⟩, ⟨⟨List.Perm.refl _, List.Pairwise.nil, fun f hf => by cases hf⟩, Nat.zero_le _⟩, ⟨rfl, fun i co mo h => by simp at h⟩, rfl, rfl⟩
theorem j_J.put {S : g_S} {M : m_S} (h : j_J S M) {us : List Nat} (hu : us.length ≤ 400) (hb : ∀ u ∈ us, u < 256) : j_J (us, S.2.1, S.2.2.1, S.2.2.2.1, S.2.2.2.2.1, S.2.2.2.2.2.1, S.2.2.2.2.2.2) (us, M.2.1, M.2.2.1, M.2.2.2.1, M.2.2.2.2.1, M.2.2.2.2.2.1, M.2.2.2.2.2.2) := ⟨⟨rfl, hu, hb⟩, h.2⟩
theorem j_J.path {S : g_S} {M : m_S} (h : j_J S M) (hl : S.1.length ≤ 100) : j_J ([], S.1, S.2.2.1, S.2.2.2.1, S.2.2.2.2.1, S.2.2.2.2.2.1, S.2.2.2.2.2.2) ([], M.1, M.2.2.1, M.2.2.2.1, M.2.2.2.2.1, M.2.2.2.2.2.1, M.2.2.2.2.2.2) := ⟨⟨rfl, Nat.zero_le _, fun u hu => by cases hu⟩, ⟨h.1.1, hl, h.1.2.2⟩, h.2.2⟩
theorem j_os.push {kc : List g_F} {cos : List g_O} {mos : List m_P} {co : g_O} {mo : m_P} (h : j_os kc cos mos) (ho : j_op (g_rep kc cos) co mo) : j_os kc (cos ++ [co]) (mos ++ [mo]) := by
  refine ⟨by rw [List.length_append, List.length_append, h.1]; rfl, fun i a b ha hb => ?_⟩
  rcases Nat.lt_or_ge i cos.length with q | q
  · rw [List.getElem?_append_left q] at ha
    rw [List.getElem?_append_left (by rw [← h.1]; exact q)] at hb
    rw [List.take_append_of_le_length (Nat.le_of_lt q)]
    exact h.2 i a b ha hb
  · have hi := (List.getElem?_eq_some_iff.mp ha).1
    rw [List.length_append] at hi
    have e : i = cos.length := by
      have : ([co] : List g_O).length = 1 := rfl
      omega
    subst e
    rw [List.getElem?_append_right (Nat.le_refl _), Nat.sub_self] at ha
    rw [List.getElem?_append_right (by rw [h.1]; exact Nat.le_refl _), h.1, Nat.sub_self] at hb
    cases ha
    cases hb
    rw [List.take_append_of_le_length (Nat.le_refl _), List.take_length]
    exact ho
/-- an operation more -/
theorem j_J.push {S : g_S} {M : m_S} (h : j_J S M) {us : List Nat} (hu : us = [] ∨ us = S.1) {co : g_O} {mo : m_P} (ho : j_op S.2.2.1 co mo) : j_J (us, S.2.1, g_ap S.2.2.1 co, S.2.2.2.1, S.2.2.2.2.1, S.2.2.2.2.2.1 ++ [co], S.2.2.2.2.2.2 + 1) (m_push M us mo) := by
  obtain ⟨h1, h2, ⟨h3, h4⟩, h5, h6, h7, h8⟩ := h
  refine ⟨?_, h2, ⟨?_, ?_⟩, h5, h6.push (by rw [← h3]; exact ho), congrArg (· + 1) h7, h8⟩
  · rcases hu with e | e
    · subst e
      exact ⟨rfl, Nat.zero_le _, fun u hu => by cases hu⟩
    · subst e
      exact ⟨rfl, h1.2⟩
  · show g_ap S.2.2.1 co = g_rep S.2.2.2.1 (S.2.2.2.2.2.1 ++ [co])
    rw [g_rep_app, ← h3]
  · show m_act M.2.2.1 mo = (M.2.2.2.2.1 ++ [mo]).foldl m_act M.2.2.2.1
    rw [List.foldl_append, ← h4]
    rfl
theorem j_J.sync {S : g_S} {M : m_S} (h : j_J S M) : j_J (S.1, S.2.1, S.2.2.1, S.2.2.1, S.2.2.2.2.1, [], S.2.2.2.2.2.2 + 1) (M.1, M.2.1, M.2.2.1, M.2.2.1, [], M.2.2.2.2.2.1 + 1, M.2.2.2.2.2.2) := ⟨h.1, h.2.1, ⟨rfl, rfl⟩, h.now, ⟨rfl, fun i co mo h => by simp at h⟩, congrArg (· + 1) h.2.2.2.2.2.1, h.2.2.2.2.2.2⟩
theorem j_J.brk {S : g_S} {M : m_S} (h : j_J S M) (k : Nat) (hk : k ≤ S.2.2.2.2.2.1.length) : j_J (S.1, S.2.1, g_rep S.2.2.2.1 (S.2.2.2.2.2.1.take k), g_rep S.2.2.2.1 (S.2.2.2.2.2.1.take k), S.2.2.2.2.1, [], S.2.2.2.2.2.2) (M.1, M.2.1, (M.2.2.2.2.1.take k).foldl m_act M.2.2.2.1, (M.2.2.2.2.1.take k).foldl m_act M.2.2.2.1, [], M.2.2.2.2.2.1, M.2.2.2.2.2.2) := ⟨h.1, h.2.1, ⟨rfl, rfl⟩, j_reps h.2.2.2.1.1 h.2.2.2.1.2 h.2.2.2.2.1 k hk, ⟨rfl, fun i co mo h => by simp at h⟩, h.2.2.2.2.2⟩
theorem j_J.list {S : g_S} {M : m_S} (h : j_J S M) (x : Int32) : j_J (S.1, S.2.1, S.2.2.1, S.2.2.2.1, g_lst S.2.2.1 x, S.2.2.2.2.2.1, S.2.2.2.2.2.2) (M.1, M.2.1, M.2.2.1, M.2.2.2.1, M.2.2.2.2.1, M.2.2.2.2.2.1, m_tell (m_lst M.2.2.1 x M.2.2.1.length)) := ⟨h.1, h.2.1, h.2.2.1, h.2.2.2.1, h.2.2.2.2.1, h.2.2.2.2.2.1, by rw [j_lst h.now.1 h.now.2 x]⟩
theorem j_lsd (fs : List g_F) (i k : Int32) : m_lsd (m_tell fs) i k = g_lsd fs i k := by
  unfold m_lsd g_lsd m_tell
  rw [List.getElem?_map]
  split
  · rfl
  · cases fs[i.toNatClampNeg]? <;> rfl
theorem j_J.cnt {S : g_S} {M : m_S} (h : j_J S M) (x : Int32) : m_cntv M x = g_cntv S x := by
  have hp := h.now.1.1
  have e1 : g_cnt M.2.2.1 x = g_cnt S.2.2.1 x := (hp.countP_eq _).symm
  have e2 : M.2.2.1.length = S.2.2.1.length := hp.length_eq.symm
  unfold m_cntv g_cntv
  rw [e1, e2, h.1.1, ← h.2.2.2.2.1.1, h.2.2.2.2.2.1]
