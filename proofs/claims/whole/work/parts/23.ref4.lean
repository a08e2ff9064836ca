set_option maxHeartbeats 4000000 in
set_option maxRecDepth 100000 in
theorem c_Mo_findHere (l : Launch) {D : va_G} {A : Nat → ClassId} {H0 : Heap} {b : Nat} {v0 v1 v4 v5 v6 v7 : Int32} {G : m_G} {fs : List g_F} {ps : List Nat} (ho : m_O D b v0 v1 (nI ps.length) (nI fs.length) v4 v5 v6 v7 H0) (hR : m_R D A b G H0) (x y : Int32) (hfl : fs.length ≤ 60) (hfs : m_L G 0 fs) (hp1 : ps.length ≤ 100) (hp2 : ∀ k, k < ps.length → G 2 k = sb_b (ps.getD k 0)) (hp3 : ∀ u ∈ ps, u < 256)  : Met l y_Mo_findHere w_Mo_findHere { frames := 0, cells := 0, slots := 0, locals := 0 } (x_Pc D A [.ref b, .int x, .int y] H0) (x_Q (some (.int (g_ixv (g_find fs (x, y, ps))))) (fun H1 => H1 = H0)) 0 0 (fun _ => False) := by
  refine Met.ofW (cc := prog_10_method_14_code) (maxL := 6) (ret := (some .int)) (by decide) rfl ?_
  intro p e s m args below meth c s₁ B hml hv
  obtain ⟨rfl, hH, hK, hN⟩ := hv
  obtain ⟨hx, hb, hr, htb, hown, hlocks⟩ := x_start (wd := Cond.code y_Mo_findHere prog_10_method_14_code 6 (some .int)) B
  have hl := lv_entry ([.ref b, .int x, .int y]) (n := 6) (Nat.le_of_ble_eq_true rfl)
  rw [lg_entry_eq]
  generalize (lg_sl ([.ref b, .int x, .int y]) ++ List.replicate (6 - (lg_sl ([.ref b, .int x, .int y])).length) Slot.unset).toArray = ls at hl ⊢
  have hl : lv_has ls 6 [(0, .ref b), (1, .int x), (2, .int y)] := hl
  rw [hH]
  have hokn : g_okp (x, y, ps).2.2 := ⟨by show ps.length ≤ 400; omega, hp3⟩
  refine lv_iconst (v := 0) hx hb d_Mo_findHere_0 (by decide) ?_
  refine lv_istore_n (lv' := [(3, .int 0), (0, .ref b), (1, .int x), (2, .int y)]) hx hb d_Mo_findHere_1 rfl hl (by decide) rfl (fun ls hl => ?_)
  refine x_loop (σ := Nat × Array Slot) (fun z => F0 m 2 z.2 []) (fun _ => H0) (fun _ => []) (fun z => z.1 ≤ fs.length ∧ (∀ (j : Nat) (f : g_F), j < z.1 → fs[j]? = some f → ¬ (x, y, ps) = f.1) ∧ lv_has z.2 6 [(3, .int (nI z.1)), (0, .ref b), (1, .int x), (2, .int y)]) (fun z => fs.length - z.1) (s0 := (0, ls)) ⟨Nat.zero_le _, (fun j f q => absurd q (Nat.not_lt_zero j)), (lv_sub hl [0, 1, 2, 3] rfl)⟩ ?_
  clear hl
  rintro ⟨k, ls⟩ ⟨hk, hno, hl⟩ ih
  dsimp only at hk hno hl ih ⊢
  refine lv_iload_n hx hb d_Mo_findHere_2 rfl (lv_at hl 0 rfl) ?_
  refine lv_aload_n hx hb d_Mo_findHere_3 rfl (lv_at hl 1 rfl) ?_
  refine x_get (ci := 8) (T := T_Mo) hx hb htb u_Mo hown hK ho rfl 11 (by decide) (htb _ mw_474) (fun _ h9 => h9) (v := .int (nI fs.length)) rfl d_Mo_findHere_4 ?_
  refine lv_icmp_ge (tgt := 115) hx hb d_Mo_findHere_7 (by decide) (fun c1 => ?_) (fun c1 => ?_)
  · have e : k = fs.length := Nat.le_antisymm hk (Nat.le_of_not_lt fun q => absurd c1 (nI_ge q (by omega)))
    refine lv_iconst (v := (-1)) hx hb d_Mo_findHere_115 (by decide) ?_
    exact x_iret hx hb hr hlocks (by rw [m_g0 (fun j f q => hno j f (by rw [e]; exact q)) hokn hfs.okp]; rfl) rfl (fun q hq => by cases hq) (Nat.le_refl _) (Nat.le_refl _) d_Mo_findHere_116
  · have hlt : k < fs.length := Nat.lt_of_not_le fun q => absurd (nI_le q (by omega)) c1
    obtain ⟨f, hff⟩ := g_ex hlt
    have hfe : m_e G k f := hfs k f hff
    obtain ⟨⟨f1, f2⟩, ⟨f3, f4, f5, f6⟩, -⟩ := id hfe
    have rest : ∀ ls, lv_has ls 6 [(4, .int (if (f.1.1 = x ∧ f.1.2.1 = y ∧ f.1.2.2.length = ps.length) ∧ f.1.2.2.take 0 = ps.take 0 then 1 else 0)), (3, .int (nI k)), (0, .ref b), (1, .int x), (2, .int y)] → W p l e (headSpec w_Mo_findHere { frames := 0, cells := 0, slots := 0, locals := 0 }).room s m [Value.ref b, Value.int x, Value.int y].toArray below meth c H0 [] 0 0 (MQ below (x_Q (some (.int (g_ixv (g_find fs (x, y, ps))))) (fun H1 => H1 = H0)) [Value.ref b, Value.int x, Value.int y].toArray s 0 0 (fun _ => False)) (F0 m 50 ls []) := by
      intro ls hl
      have ih0 := ih
      have hk0 := hk
      clear ih hk
      refine lv_iconst (v := 0) hx hb d_Mo_findHere_50 (by decide) ?_
      refine lv_istore (lv' := [(5, .int 0), (4, .int (if (f.1.1 = x ∧ f.1.2.1 = y ∧ f.1.2.2.length = ps.length) ∧ f.1.2.2.take 0 = ps.take 0 then 1 else 0)), (3, .int (nI k)), (0, .ref b), (1, .int x), (2, .int y)]) hx hb d_Mo_findHere_51 hl (by decide) rfl (fun ls hl => ?_)
      refine x_loop (σ := Nat × Array Slot) (fun z => F0 m 53 z.2 []) (fun _ => H0) (fun _ => []) (fun z => z.1 ≤ ps.length ∧ lv_has z.2 6 [(5, .int (nI z.1)), (4, .int (if (f.1.1 = x ∧ f.1.2.1 = y ∧ f.1.2.2.length = ps.length) ∧ f.1.2.2.take z.1 = ps.take z.1 then 1 else 0)), (3, .int (nI k)), (0, .ref b), (1, .int x), (2, .int y)]) (fun z => ps.length - z.1) (s0 := (0, ls)) ⟨Nat.zero_le _, (lv_sub hl [0, 1, 2, 3, 4, 5] rfl)⟩ ?_
      clear hl
      rintro ⟨i, ls⟩ ⟨hk, hl⟩ ih
      dsimp only at hk  hl ih ⊢
      refine lv_iload hx hb d_Mo_findHere_53 (lv_at hl 0 rfl) ?_
      refine lv_aload_n hx hb d_Mo_findHere_55 rfl (lv_at hl 3 rfl) ?_
      refine x_get (ci := 8) (T := T_Mo) hx hb htb u_Mo hown hK ho rfl 4 (by decide) (htb _ mw_467) (fun _ h9 => h9) (v := .int (nI ps.length)) rfl d_Mo_findHere_56 ?_
      refine lv_icmp_ge (tgt := 102) hx hb d_Mo_findHere_59 (by decide) (fun c2 => ?_) (fun c2 => ?_)
      · have e : i = ps.length := Nat.le_antisymm hk (Nat.le_of_not_lt fun q => absurd c2 (nI_ge q (by omega)))
        have e5 : ((f.1.1 = x ∧ f.1.2.1 = y ∧ f.1.2.2.length = ps.length) ∧ f.1.2.2.take i = ps.take i) ↔ (x, y, ps) = f.1 := ⟨fun q => g_eq3 q.1.1 q.1.2.1 (m_end (us := f.1.2.2) (vs := ps) (e.trans q.1.2.2.symm) ⟨q.1.2.2, q.2⟩), fun q => by rw [← q]; exact ⟨⟨rfl, rfl, rfl⟩, rfl⟩⟩
        refine lv_iload hx hb d_Mo_findHere_102 (lv_at hl 1 rfl) ?_
        refine lv_if_eq (tgt := 109) hx hb d_Mo_findHere_104 (by decide) (fun c4 => ?_) (fun c4 => ?_)
        · have e6 : ¬ (x, y, ps) = f.1 := fun q => by rw [if_pos (e5.mpr q)] at c4; exact absurd c4 (by decide)
          refine lv_iinc (v := nI (k + 1)) (lv' := [(3, .int (nI (k + 1))), (5, .int (nI i)), (4, .int (if (f.1.1 = x ∧ f.1.2.1 = y ∧ f.1.2.2.length = ps.length) ∧ f.1.2.2.take i = ps.take i then 1 else 0)), (0, .ref b), (1, .int x), (2, .int y)]) hx hb d_Mo_findHere_109 hl (k := 2) rfl (nI_1 k) (by decide) rfl (fun ls hl => ?_)
          refine lv_goto (tgt := 2) hx hb d_Mo_findHere_112 (by decide) ?_
          refine ih0 (k + 1, ls) ⟨hlt, fun j f' q q2 => ?_, (lv_sub hl [0, 3, 4, 5] rfl)⟩ (by show fs.length - (k + 1) < fs.length - k; omega)
          rcases Nat.lt_succ_iff_lt_or_eq.mp q with q | q
          · exact hno j f' q q2
          · subst q
            rw [hff] at q2
            cases q2
            exact e6
        · have e6 : (x, y, ps) = f.1 := Decidable.byContradiction fun q => c4 (if_neg (fun w => q (e5.mp w)))
          refine lv_iload_n hx hb d_Mo_findHere_107 rfl (lv_at hl 2 rfl) ?_
          exact x_iret hx hb hr hlocks (by rw [m_g1 hno hokn hfs.okp hff e6]; rfl) rfl (fun q hq => by cases hq) (Nat.le_refl _) (Nat.le_refl _) d_Mo_findHere_108
      · have hlt2 : i < ps.length := Nat.lt_of_not_le fun q => absurd (nI_le q (by omega)) c2
        refine lv_iload hx hb d_Mo_findHere_62 (lv_at hl 1 rfl) ?_
        refine lv_if_eq (tgt := 102) hx hb d_Mo_findHere_64 (by decide) (fun c3 => ?_) (fun c3 => ?_)
        · have e2 : ¬ ((f.1.1 = x ∧ f.1.2.1 = y ∧ f.1.2.2.length = ps.length) ∧ f.1.2.2.take i = ps.take i) := fun q => by rw [if_pos q] at c3; exact absurd c3 (by decide)
          have e5 : ((f.1.1 = x ∧ f.1.2.1 = y ∧ f.1.2.2.length = ps.length) ∧ f.1.2.2.take i = ps.take i) ↔ (x, y, ps) = f.1 := ⟨fun q => absurd q e2, fun q => by rw [← q]; exact ⟨⟨rfl, rfl, rfl⟩, rfl⟩⟩
          refine lv_iload hx hb d_Mo_findHere_102 (lv_at hl 1 rfl) ?_
          refine lv_if_eq (tgt := 109) hx hb d_Mo_findHere_104 (by decide) (fun c4 => ?_) (fun c4 => ?_)
          · have e6 : ¬ (x, y, ps) = f.1 := fun q => by rw [if_pos (e5.mpr q)] at c4; exact absurd c4 (by decide)
            refine lv_iinc (v := nI (k + 1)) (lv' := [(3, .int (nI (k + 1))), (5, .int (nI i)), (4, .int (if (f.1.1 = x ∧ f.1.2.1 = y ∧ f.1.2.2.length = ps.length) ∧ f.1.2.2.take i = ps.take i then 1 else 0)), (0, .ref b), (1, .int x), (2, .int y)]) hx hb d_Mo_findHere_109 hl (k := 2) rfl (nI_1 k) (by decide) rfl (fun ls hl => ?_)
            refine lv_goto (tgt := 2) hx hb d_Mo_findHere_112 (by decide) ?_
            refine ih0 (k + 1, ls) ⟨hlt, fun j f' q q2 => ?_, (lv_sub hl [0, 3, 4, 5] rfl)⟩ (by show fs.length - (k + 1) < fs.length - k; omega)
            rcases Nat.lt_succ_iff_lt_or_eq.mp q with q | q
            · exact hno j f' q q2
            · subst q
              rw [hff] at q2
              cases q2
              exact e6
          · have e6 : (x, y, ps) = f.1 := Decidable.byContradiction fun q => c4 (if_neg (fun w => q (e5.mp w)))
            refine lv_iload_n hx hb d_Mo_findHere_107 rfl (lv_at hl 2 rfl) ?_
            exact x_iret hx hb hr hlocks (by rw [m_g1 hno hokn hfs.okp hff e6]; rfl) rfl (fun q hq => by cases hq) (Nat.le_refl _) (Nat.le_refl _) d_Mo_findHere_108
        · have e2 : (f.1.1 = x ∧ f.1.2.1 = y ∧ f.1.2.2.length = ps.length) ∧ f.1.2.2.take i = ps.take i := Decidable.byContradiction fun q => c3 (if_neg q)
          have e3 := e2.1.2.2
          refine lv_aload_n hx hb d_Mo_findHere_67 rfl (lv_at hl 3 rfl) ?_
          refine x_get (ci := 8) (T := T_Mo) hx hb htb u_Mo hown hK ho rfl 9 (by decide) (htb _ mw_472) (fun _ h9 => h9) (v := .ref (b + 7)) rfl d_Mo_findHere_68 ?_
          refine lv_bipush (v := 100) hx hb d_Mo_findHere_71 (by decide) ?_
          refine lv_iload_n hx hb d_Mo_findHere_73 rfl (lv_at hl 2 rfl) ?_
          refine lv_imul hx hb d_Mo_findHere_74 ?_
          refine lv_iload hx hb d_Mo_findHere_75 (lv_at hl 0 rfl) ?_
          refine lv_iadd hx hb d_Mo_findHere_77 ?_
          refine x_top (y := nI (100 * k + i)) (by rw [show (100 : Int32) = nI 100 from rfl, pk_mul, nI_add]) ?_
          refine m_bld hx hb hK hR 7 (by decide) (by decide) rfl (i := 100 * k + i) (show _ < 32000 by omega) d_Mo_findHere_78 ?_
          refine x_top (y := sb_b (f.1.2.2.getD i 0)) (f5 i (by omega)) ?_
          refine lv_aload_n hx hb d_Mo_findHere_79 rfl (lv_at hl 3 rfl) ?_
          refine x_get (ci := 8) (T := T_Mo) hx hb htb u_Mo hown hK ho rfl 2 (by decide) (htb _ mw_465) (fun _ h9 => h9) (v := .ref (b + 2)) rfl d_Mo_findHere_80 ?_
          refine lv_iload hx hb d_Mo_findHere_83 (lv_at hl 0 rfl) ?_
          refine m_bld hx hb hK hR 2 (by decide) (by decide) rfl (i := i) (show _ < 100 by omega) d_Mo_findHere_85 ?_
          refine x_top (y := sb_b (ps.getD i 0)) (hp2 i hlt2) ?_
          have e4 := m_tk2 (us := f.1.2.2) (k := i) (by omega) hlt2
          refine lv_icmp_ne (tgt := 93) hx hb d_Mo_findHere_86 (by decide) (fun c5 => ?_) (fun c5 => ?_)
          · refine lv_iconst (v := 0) hx hb d_Mo_findHere_93 (by decide) ?_
            refine x_top (y := if (f.1.1 = x ∧ f.1.2.1 = y ∧ f.1.2.2.length = ps.length) ∧ f.1.2.2.take (i + 1) = ps.take (i + 1) then 1 else 0) ((if_neg (fun q => c5 (congrArg sb_b (e4.mp q.2).2))).symm) ?_
            refine lv_istore (lv' := [(4, .int (if (f.1.1 = x ∧ f.1.2.1 = y ∧ f.1.2.2.length = ps.length) ∧ f.1.2.2.take (i + 1) = ps.take (i + 1) then 1 else 0)), (5, .int (nI i)), (3, .int (nI k)), (0, .ref b), (1, .int x), (2, .int y)]) hx hb d_Mo_findHere_94 hl (by decide) rfl (fun ls hl => ?_)
            refine lv_iinc (v := nI (i + 1)) (lv' := [(5, .int (nI (i + 1))), (4, .int (if (f.1.1 = x ∧ f.1.2.1 = y ∧ f.1.2.2.length = ps.length) ∧ f.1.2.2.take (i + 1) = ps.take (i + 1) then 1 else 0)), (3, .int (nI k)), (0, .ref b), (1, .int x), (2, .int y)]) hx hb d_Mo_findHere_96 hl (k := 1) rfl (nI_1 i) (by decide) rfl (fun ls hl => ?_)
            refine lv_goto (tgt := 53) hx hb d_Mo_findHere_99 (by decide) ?_
            exact ih (i + 1, ls) ⟨hlt2, (lv_sub hl [0, 1, 2, 3, 4, 5] rfl)⟩ (by show ps.length - (i + 1) < ps.length - i; omega)
          · refine lv_iconst (v := 1) hx hb d_Mo_findHere_89 (by decide) ?_
            refine lv_goto (tgt := 94) hx hb d_Mo_findHere_90 (by decide) ?_
            refine x_top (y := if (f.1.1 = x ∧ f.1.2.1 = y ∧ f.1.2.2.length = ps.length) ∧ f.1.2.2.take (i + 1) = ps.take (i + 1) then 1 else 0) ((if_pos ⟨e2.1, e4.mpr ⟨e2.2, sb_inj (g_u f6 i) (g_u hp3 i) c5⟩⟩).symm) ?_
            refine lv_istore (lv' := [(4, .int (if (f.1.1 = x ∧ f.1.2.1 = y ∧ f.1.2.2.length = ps.length) ∧ f.1.2.2.take (i + 1) = ps.take (i + 1) then 1 else 0)), (5, .int (nI i)), (3, .int (nI k)), (0, .ref b), (1, .int x), (2, .int y)]) hx hb d_Mo_findHere_94 hl (by decide) rfl (fun ls hl => ?_)
            refine lv_iinc (v := nI (i + 1)) (lv' := [(5, .int (nI (i + 1))), (4, .int (if (f.1.1 = x ∧ f.1.2.1 = y ∧ f.1.2.2.length = ps.length) ∧ f.1.2.2.take (i + 1) = ps.take (i + 1) then 1 else 0)), (3, .int (nI k)), (0, .ref b), (1, .int x), (2, .int y)]) hx hb d_Mo_findHere_96 hl (k := 1) rfl (nI_1 i) (by decide) rfl (fun ls hl => ?_)
            refine lv_goto (tgt := 53) hx hb d_Mo_findHere_99 (by decide) ?_
            exact ih (i + 1, ls) ⟨hlt2, (lv_sub hl [0, 1, 2, 3, 4, 5] rfl)⟩ (by show ps.length - (i + 1) < ps.length - i; omega)
    refine lv_aload_n hx hb d_Mo_findHere_10 rfl (lv_at hl 1 rfl) ?_
    refine x_get (ci := 8) (T := T_Mo) hx hb htb u_Mo hown hK ho rfl 5 (by decide) (htb _ mw_468) (fun _ h9 => h9) (v := .ref (b + 3)) rfl d_Mo_findHere_11 ?_
    refine lv_iload_n hx hb d_Mo_findHere_14 rfl (lv_at hl 0 rfl) ?_
    refine m_ild hx hb hK hR 3 (by decide) (by decide) rfl (i := k) (show _ < 320 by omega) d_Mo_findHere_15 ?_
    refine x_top (y := f.1.1) (f1) ?_
    refine lv_iload_n hx hb d_Mo_findHere_16 rfl (lv_at hl 2 rfl) ?_
    refine lv_icmp_ne (tgt := 47) hx hb d_Mo_findHere_17 (by decide) (fun c2 => ?_) (fun c2 => ?_)
    · refine lv_iconst (v := 0) hx hb d_Mo_findHere_47 (by decide) ?_
      refine x_top (y := if (f.1.1 = x ∧ f.1.2.1 = y ∧ f.1.2.2.length = ps.length) ∧ f.1.2.2.take 0 = ps.take 0 then 1 else 0) ((if_neg (fun q => c2 q.1.1)).symm) ?_
      refine lv_istore (lv' := [(4, .int (if (f.1.1 = x ∧ f.1.2.1 = y ∧ f.1.2.2.length = ps.length) ∧ f.1.2.2.take 0 = ps.take 0 then 1 else 0)), (3, .int (nI k)), (0, .ref b), (1, .int x), (2, .int y)]) hx hb d_Mo_findHere_48 hl (by decide) rfl (fun ls hl => ?_)
      exact rest ls (lv_sub hl [0, 1, 2, 3, 4] rfl)
    · refine lv_aload_n hx hb d_Mo_findHere_20 rfl (lv_at hl 1 rfl) ?_
      refine x_get (ci := 8) (T := T_Mo) hx hb htb u_Mo hown hK ho rfl 6 (by decide) (htb _ mw_469) (fun _ h9 => h9) (v := .ref (b + 4)) rfl d_Mo_findHere_21 ?_
      refine lv_iload_n hx hb d_Mo_findHere_24 rfl (lv_at hl 0 rfl) ?_
      refine m_ild hx hb hK hR 4 (by decide) (by decide) rfl (i := k) (show _ < 320 by omega) d_Mo_findHere_25 ?_
      refine x_top (y := f.1.2.1) (f2) ?_
      refine lv_iload_n hx hb d_Mo_findHere_26 rfl (lv_at hl 3 rfl) ?_
      refine lv_icmp_ne (tgt := 47) hx hb d_Mo_findHere_27 (by decide) (fun c3 => ?_) (fun c3 => ?_)
      · refine lv_iconst (v := 0) hx hb d_Mo_findHere_47 (by decide) ?_
        refine x_top (y := if (f.1.1 = x ∧ f.1.2.1 = y ∧ f.1.2.2.length = ps.length) ∧ f.1.2.2.take 0 = ps.take 0 then 1 else 0) ((if_neg (fun q => c3 q.1.2.1)).symm) ?_
        refine lv_istore (lv' := [(4, .int (if (f.1.1 = x ∧ f.1.2.1 = y ∧ f.1.2.2.length = ps.length) ∧ f.1.2.2.take 0 = ps.take 0 then 1 else 0)), (3, .int (nI k)), (0, .ref b), (1, .int x), (2, .int y)]) hx hb d_Mo_findHere_48 hl (by decide) rfl (fun ls hl => ?_)
        exact rest ls (lv_sub hl [0, 1, 2, 3, 4] rfl)
      · refine lv_aload_n hx hb d_Mo_findHere_30 rfl (lv_at hl 1 rfl) ?_
        refine x_get (ci := 8) (T := T_Mo) hx hb htb u_Mo hown hK ho rfl 7 (by decide) (htb _ mw_470) (fun _ h9 => h9) (v := .ref (b + 5)) rfl d_Mo_findHere_31 ?_
        refine lv_iload_n hx hb d_Mo_findHere_34 rfl (lv_at hl 0 rfl) ?_
        refine m_ild hx hb hK hR 5 (by decide) (by decide) rfl (i := k) (show _ < 320 by omega) d_Mo_findHere_35 ?_
        refine x_top (y := nI f.1.2.2.length) (f3) ?_
        refine lv_aload_n hx hb d_Mo_findHere_36 rfl (lv_at hl 1 rfl) ?_
        refine x_get (ci := 8) (T := T_Mo) hx hb htb u_Mo hown hK ho rfl 4 (by decide) (htb _ mw_467) (fun _ h9 => h9) (v := .int (nI ps.length)) rfl d_Mo_findHere_37 ?_
        refine lv_icmp_ne (tgt := 47) hx hb d_Mo_findHere_40 (by decide) (fun c4 => ?_) (fun c4 => ?_)
        · refine lv_iconst (v := 0) hx hb d_Mo_findHere_47 (by decide) ?_
          refine x_top (y := if (f.1.1 = x ∧ f.1.2.1 = y ∧ f.1.2.2.length = ps.length) ∧ f.1.2.2.take 0 = ps.take 0 then 1 else 0) ((if_neg (fun q => c4 (by rw [q.1.2.2]))).symm) ?_
          refine lv_istore (lv' := [(4, .int (if (f.1.1 = x ∧ f.1.2.1 = y ∧ f.1.2.2.length = ps.length) ∧ f.1.2.2.take 0 = ps.take 0 then 1 else 0)), (3, .int (nI k)), (0, .ref b), (1, .int x), (2, .int y)]) hx hb d_Mo_findHere_48 hl (by decide) rfl (fun ls hl => ?_)
          exact rest ls (lv_sub hl [0, 1, 2, 3, 4] rfl)
        · refine lv_iconst (v := 1) hx hb d_Mo_findHere_43 (by decide) ?_
          refine lv_goto (tgt := 48) hx hb d_Mo_findHere_44 (by decide) ?_
          refine x_top (y := if (f.1.1 = x ∧ f.1.2.1 = y ∧ f.1.2.2.length = ps.length) ∧ f.1.2.2.take 0 = ps.take 0 then 1 else 0) ((if_pos ⟨⟨c2, c3, (nI_eq (by omega) (by omega)).mp c4⟩, by rw [List.take_zero, List.take_zero]⟩).symm) ?_
          refine lv_istore (lv' := [(4, .int (if (f.1.1 = x ∧ f.1.2.1 = y ∧ f.1.2.2.length = ps.length) ∧ f.1.2.2.take 0 = ps.take 0 then 1 else 0)), (3, .int (nI k)), (0, .ref b), (1, .int x), (2, .int y)]) hx hb d_Mo_findHere_48 hl (by decide) rfl (fun ls hl => ?_)
          exact rest ls (lv_sub hl [0, 1, 2, 3, 4] rfl)
/-- the last file in the place of file k -/
def m_drop (fs : List g_F) (k : Nat) : List g_F := match fs.getLast? with
  | some f => (fs.set k f).dropLast
  | none => fs
theorem m_drop_last {fs : List g_F} {f : g_F} (hf : fs.getLast? = some f) {k : Nat} : m_drop fs k = (fs.set k f).dropLast := by
  unfold m_drop
  rw [hf]
theorem m_drop_len {fs : List g_F} {k : Nat} (h : 0 < fs.length) : (m_drop fs k).length = fs.length - 1 := by
  obtain ⟨f, hf⟩ : ∃ f, fs.getLast? = some f := by
    cases e : fs.getLast? with
    | none => rw [List.getLast?_eq_none_iff] at e; rw [e] at h; exact absurd h (Nat.lt_irrefl _)
    | some f => exact ⟨f, rfl⟩
  rw [m_drop_last hf, List.length_dropLast, List.length_set]
theorem m_drop_get {fs : List g_F} {f : g_F} {k : Nat} (hf : fs[fs.length - 1]? = some f) {i : Nat} {g : g_F} (h : (m_drop fs k)[i]? = some g) : i < fs.length - 1 ∧ ((i = k ∧ g = f) ∨ (i ≠ k ∧ fs[i]? = some g)) := by
  have hl : fs.getLast? = some f := by rw [List.getLast?_eq_getElem?]; exact hf
  rw [m_drop_last hl, List.getElem?_dropLast, List.length_set] at h
  split at h
  · rename_i hi
    refine ⟨hi, ?_⟩
    rw [List.getElem?_set] at h
    split at h
    · rename_i e
      split at h
      · exact Or.inl ⟨e.symm, (Option.some.inj h).symm⟩
      · cases h
    · rename_i e
      exact Or.inr ⟨fun q => e q.symm, h⟩
  · cases h
theorem m_fr.L {t o : Nat} {G G' : m_G} {fs : List g_F} (h : m_fr t G G') (ht : t < o ∨ o + fs.length ≤ t) (hf : m_L G o fs) : m_L G' o fs := fun i f hi => h.e (by have := (List.getElem?_eq_some_iff.mp hi).1; omega) (hf i f hi)

set_option maxHeartbeats 4000000 in
set_option maxRecDepth 100000 in
theorem c_Mo_drop (l : Launch) {D : va_G} {A : Nat → ClassId} {H0 : Heap} {b : Nat} {v0 v1 v2 v4 v5 v6 v7 : Int32} {G : m_G} {fs : List g_F} (ho : m_O D b v0 v1 v2 (nI fs.length) v4 v5 v6 v7 H0) (hR : m_R D A b G H0) {k : Nat} (hfl : fs.length ≤ 60) (hfs : m_L G 0 fs) (hk : k < fs.length) : Met l y_Mo_drop w_Mo_drop { frames := 1, cells := 0, slots := 0, locals := 23 } (x_Pc D A [.ref b, .int (nI k)] H0) (x_Q none (fun H1 => ∃ G1 : m_G, m_O D b v0 v1 v2 (nI (fs.length - 1)) v4 v5 v6 v7 H1 ∧ m_R D A b G1 H1 ∧ m_K b H0 H1 ∧ m_L G1 0 (m_drop fs k) ∧ m_fr k G G1)) 0 0 (m_fq b) := by
  refine Met.ofW (cc := prog_10_method_9_code) (maxL := 2) (ret := none) (by decide) rfl ?_
  intro p e s m args below meth c s₁ B hml hv
  obtain ⟨rfl, hH, hK, hN⟩ := hv
  obtain ⟨hx, hb, hr, htb, hown, hlocks⟩ := x_start (wd := Cond.code y_Mo_drop prog_10_method_9_code 2 none) B
  have hl := lv_entry ([.ref b, .int (nI k)]) (n := 2) (Nat.le_of_ble_eq_true rfl)
  rw [lg_entry_eq]
  generalize (lg_sl ([.ref b, .int (nI k)]) ++ List.replicate (2 - (lg_sl ([.ref b, .int (nI k)])).length) Slot.unset).toArray = ls at hl ⊢
  have hl : lv_has ls 2 [(0, .ref b), (1, .int (nI k))] := hl
  rw [hH]
  have hM : m_K b H0 H0 := m_K.refl
  have hL : ∀ q ∈ ([] : List Loc), m_fq b q.base := fun q hq => by cases hq
  obtain ⟨g, hg⟩ := g_ex (as := fs) (j := fs.length - 1) (by omega)
  have hge : m_e G (fs.length - 1) g := hfs _ g hg
  refine lv_aload_n hx hb d_Mo_drop_0 rfl (lv_at hl 0 rfl) ?_
  refine lv_dup hx hb d_Mo_drop_1 rfl ?_
  refine x_get (ci := 8) (T := T_Mo) hx hb htb u_Mo hown hK ho rfl 11 (by decide) (htb _ mw_474) (fun _ h9 => h9) (v := .int (nI fs.length)) rfl d_Mo_drop_2 ?_
  refine lv_iconst (v := 1) hx hb d_Mo_drop_5 (by decide) ?_
  refine lv_isub hx hb d_Mo_drop_6 ?_
  refine x_top (y := nI (fs.length - 1)) (by rw [show nI fs.length = nI (fs.length - 1 + 1) from congrArg nI (by omega), nI_pred]) ?_
  refine x_put (F := m_fq b) (ci := 8) (v := .int (nI (fs.length - 1))) (ty := .int) (T := T_Mo) hx hb htb u_Mo t_Mo t_Mo_ok n_Mo hown hK ho hL ⟨Nat.le_refl _, Nat.le_add_right _ _⟩ rfl 11 (by decide) (htb _ mw_474) (fun _ h9 => h9) rfl (by decide +kernel) rfl rfl (Nat.le_of_ble_eq_true rfl) d_Mo_drop_7 (fun H1 locs hf1 hc2 hL => ?_)
  have hf1 : va_at D x_cl (b, .inr (8, [.int v0, .ref (b + 1), .ref (b + 2), .int v1, .int v2, .ref (b + 3), .ref (b + 4), .ref (b + 5), .ref (b + 6), .ref (b + 7), .ref (b + 8), .int (nI (fs.length - 1)), .int v4, .int v5, .int v6, .ref (b + 9), .ref (b + 10), .ref (b + 11), .int v7, .ref (b + 12), .ref (b + 13), .ref (b + 14), .ref (b + 15)])) H1 := hf1
  have ho : m_O D b v0 v1 v2 (nI (fs.length - 1)) v4 v5 v6 v7 H1 := hf1
  have hR := hR.but0 hc2
  have hM := hM.trans (m_K.but0 hc2)
  refine lv_iload_n hx hb d_Mo_drop_10 rfl (lv_at hl 1 rfl) ?_
  refine lv_aload_n hx hb d_Mo_drop_11 rfl (lv_at hl 0 rfl) ?_
  refine x_get (ci := 8) (T := T_Mo) hx hb htb u_Mo hown hK ho rfl 11 (by decide) (htb _ mw_474) (fun _ h9 => h9) (v := .int (nI (fs.length - 1))) rfl d_Mo_drop_12 ?_
  refine lv_icmp_ge (tgt := 27) hx hb d_Mo_drop_15 (by decide) (fun c1 => ?_) (fun c1 => ?_)
  · have e : k = fs.length - 1 := by
      rcases Nat.lt_or_ge k (fs.length - 1) with q | q
      · exact absurd c1 (nI_ge q (by omega))
      · omega
    exact x_vret hx hb hr hlocks ⟨G, ho, hR, hM, (fun i f h => (m_drop_get hg h).2.elim (fun h2 => absurd h2.1 (by have := (m_drop_get hg h).1; omega)) (fun h2 => hfs i f h2.2)), m_fr.refl⟩ hL (Nat.le_refl _) (Nat.le_refl _) d_Mo_drop_27
  · have e : k < fs.length - 1 := Nat.lt_of_not_le fun q => c1 (nI_le q (by omega))
    refine lv_aload_n hx hb d_Mo_drop_18 rfl (lv_at hl 0 rfl) ?_
    refine lv_aload_n hx hb d_Mo_drop_19 rfl (lv_at hl 0 rfl) ?_
    refine x_get (ci := 8) (T := T_Mo) hx hb htb u_Mo hown hK ho rfl 11 (by decide) (htb _ mw_474) (fun _ h9 => h9) (v := .int (nI (fs.length - 1))) rfl d_Mo_drop_20 ?_
    refine lv_iload_n hx hb d_Mo_drop_23 rfl (lv_at hl 1 rfl) ?_
    refine x_call (F := m_fq b) (va_runV (As := [.int (nI (fs.length - 1)), .int (nI k)]) (rest := []) ⟨hx, hb, hml, hown, htb⟩ (c_Mo_copy l ho hR (i := fs.length - 1) (j := k) (by omega) (by omega) (by omega) hge) (x_cV 2 htb mw_581 mw_6 mw_584 mw_583 ms_15 rfl rfl (by decide +kernel) ⟨Nat.le_of_ble_eq_true rfl, Nat.le_of_ble_eq_true rfl⟩) (x_preV hK hN ho rfl) rfl rfl hl.1 rfl (lv_room (Nat.le_of_ble_eq_true rfl)) d_Mo_drop_24 ⟨Nat.le_of_ble_eq_true rfl, Nat.le_of_ble_eq_true rfl⟩) hL (fun q hq => hq) (fun H2 locs hP hL => ?_)
    refine W.eq (g2 := F0 m 27 ls []) rfl ?_
    obtain ⟨G1, q1, q2, q3, q4, q5⟩ := hP
    exact x_vret hx hb hr hlocks ⟨G1, q1, q2, hM.trans q3, (fun i f h => (m_drop_get hg h).2.elim (fun h2 => by rw [h2.1, h2.2]; exact q4) (fun h2 => q5.e h2.1 (hfs i f h2.2))), q5⟩ hL (Nat.le_refl _) (Nat.le_refl _) d_Mo_drop_27
