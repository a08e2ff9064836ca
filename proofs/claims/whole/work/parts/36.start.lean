/-! WHAT THE TABLES AND THE START SAY -/
theorem x_tbl {b : Nat} {s : State} (hts : ∀ w ∈ lw_tbl, w.before #[Value.ref b] s = true) : ∀ w ∈ x_tb, w.before #[Value.ref b] s = true := fun w h => hts w (List.mem_filter.mp h).1
theorem x_nf_of : ∀ w ∈ x_nf, ∀ (args : Array Value) (U : State), w.before args U = true → va_Nw w U := List.forall_mem_cons.mpr ⟨fun _ _ q => va_Nw.of rfl q, List.forall_mem_cons.mpr ⟨fun _ _ q => va_Nw.of rfl q, List.forall_mem_cons.mpr ⟨fun _ _ q => va_Nw.of rfl q, List.forall_mem_cons.mpr ⟨fun _ _ q => va_AO.of q, List.forall_mem_cons.mpr ⟨fun _ _ q => va_Nw.of rfl q, List.forall_mem_cons.mpr ⟨fun _ _ q => va_Nw.of rfl q, List.forall_mem_cons.mpr ⟨fun _ _ q => va_AO.of q, List.forall_mem_cons.mpr ⟨fun _ _ q => va_Nw.of rfl q, List.forall_mem_cons.mpr ⟨fun _ _ q => va_Nw.of rfl q, List.forall_mem_cons.mpr ⟨fun _ _ q => va_Nw.of rfl q, List.forall_mem_cons.mpr ⟨fun _ _ q => va_Nw.of rfl q, List.forall_mem_cons.mpr ⟨fun _ _ q => va_Nw.of rfl q, List.forall_mem_cons.mpr ⟨fun _ _ q => va_Nw.of rfl q, List.forall_mem_cons.mpr ⟨fun _ _ q => va_Nw.of rfl q, List.forall_mem_cons.mpr ⟨fun _ _ q => va_Nw.of rfl q, List.forall_mem_cons.mpr ⟨fun _ _ q => va_Nw.of rfl q, List.forall_mem_cons.mpr ⟨fun _ _ q => va_Nw.of rfl q, List.forall_mem_cons.mpr ⟨fun _ _ q => va_Nw.of rfl q, List.forall_mem_cons.mpr ⟨fun _ _ q => va_Nw.of rfl q, List.forall_mem_cons.mpr ⟨fun _ _ q => va_Nw.of rfl q, List.forall_mem_cons.mpr ⟨fun _ _ q => va_Nw.of rfl q, List.forall_mem_cons.mpr ⟨fun _ _ q => va_Nw.of rfl q, List.forall_mem_cons.mpr ⟨fun _ _ q => va_Nw.of rfl q, List.forall_mem_cons.mpr ⟨fun _ _ q => va_Nw.of rfl q, List.forall_mem_cons.mpr ⟨fun _ _ q => va_Nw.of rfl q, List.forall_mem_cons.mpr ⟨fun _ _ q => va_Nw.of rfl q, fun _ h => absurd h List.not_mem_nil⟩⟩⟩⟩⟩⟩⟩⟩⟩⟩⟩⟩⟩⟩⟩⟩⟩⟩⟩⟩⟩⟩⟩⟩⟩⟩
theorem x_world {b : Nat} {s : State} (hts : ∀ w ∈ lw_tbl, w.before #[Value.ref b] s = true) : ∃ (D : va_G) (A : Nat → ClassId), va_K D x_cl (x_tys A) s := by
  have htb := x_tbl hts
  obtain ⟨c0, i0, k0⟩ := u_known (n := 1) htb u_By (htb _ mw_76)
  obtain ⟨c1, i1, k1⟩ := u_known (n := 3) htb u_Nm (htb _ mw_136)
  obtain ⟨c2, i2, k2⟩ := u_known (n := 2) htb u_Sf (htb _ mw_378)
  obtain ⟨c3, i3, k3⟩ := u_known (n := 2) htb u_Op (htb _ mw_376)
  obtain ⟨c4, i4, k4⟩ := u_known (n := 2) htb u_Tp (htb _ mw_29)
  obtain ⟨c5, i5, k5⟩ := u_known (n := 2) htb u_Fi (htb _ mw_44)
  obtain ⟨c6, i6, k6⟩ := u_known (n := 2) htb u_Jo (htb _ mw_60)
  obtain ⟨c7, i7, k7⟩ := u_known (n := 7) htb u_Bd (htb _ mw_21)
  obtain ⟨c8, i8, k8⟩ := u_known (n := 23) htb u_Mo (htb _ mw_457)
  obtain ⟨a0, ak0, ac0, af0, ag0, ah0⟩ := Cond.arrayClass_spec (htb _ mw_42)
  obtain ⟨a1, ak1, ac1, af1, ag1, ah1⟩ := Cond.arrayClass_spec (htb _ mw_533)
  obtain ⟨a2, ak2, ac2, af2, ag2, ah2⟩ := Cond.arrayClass_spec (htb _ mw_638)
  obtain ⟨oc0, o0, ok0, of0, oi0, og0, oh0, on0⟩ := Cond.arrayOver_spec (hts _ ml_50)
  obtain ⟨oc1, o1, ok1, of1, oi1, og1, oh1, on1⟩ := Cond.arrayOver_spec (hts _ ml_66)
  refine ⟨(fun c => match c with | 0 => c0 | 1 => c1 | 2 => c2 | 3 => c3 | 4 => c4 | 5 => c5 | 6 => c6 | 7 => c7 | _ => c8, fun c => match c with | 0 => i0 | 1 => i1 | 2 => i2 | 3 => i3 | 4 => i4 | 5 => i5 | 6 => i6 | 7 => i7 | _ => i8), fun k => match k with | 0 => a0 | 1 => o0 | 2 => o1 | 3 => a1 | _ => a2, fun c q hq => ?_, fun k q hq => ?_⟩
  · match c, hq with
    | 0, hq => cases hq; exact k0
    | 1, hq => cases hq; exact k1
    | 2, hq => cases hq; exact k2
    | 3, hq => cases hq; exact k3
    | 4, hq => cases hq; exact k4
    | 5, hq => cases hq; exact k5
    | 6, hq => cases hq; exact k6
    | 7, hq => cases hq; exact k7
    | 8, hq => cases hq; exact k8
    | c + 9, hq => simp at hq
  · match k, hq with
    | 0, hq => cases hq; exact ⟨fun n z => ⟨fun k h => (by cases h), ak0, ag0, ac0, ah0⟩, af0⟩
    | 1, hq => cases hq; exact ⟨fun n z => ⟨fun k h => (by cases h), ok0, og0, oc0, oh0⟩, ⟨ok0, oc0, og0, oh0, of0, on0⟩⟩
    | 2, hq => cases hq; exact ⟨fun n z => ⟨fun k h => (by cases h), ok1, og1, oc1, oh1⟩, ⟨ok1, oc1, og1, oh1, of1, on1⟩⟩
    | 3, hq => cases hq; exact ⟨fun n z => ⟨fun k h => (by cases h), ak1, ag1, ac1, ah1⟩, af1⟩
    | 4, hq => cases hq; exact ⟨fun n z => ⟨fun k h => (by cases h), ak2, ag2, ac2, ah2⟩, af2⟩
    | k + 5, hq => simp at hq
theorem x_worldE {b : Nat} {s : State} (hts : ∀ w ∈ lw_tbl, w.before #[Value.ref b] s = true) (hg : (Jvm.Cond.and given_1 narrow_1).before #[Value.ref b] s = true) : x_E s := by
  have hs := flat_of_before _ hg
  have hex : ∀ k : Nat, (Cond.exactly (.string "BreakingDisk" k) "java/lang/String").before #[Value.ref b] s = true → ∃ a, (Term.string "BreakingDisk" k).eval #[Value.ref b] s none [] s = some (.ref a) := fun k h => by
    obtain ⟨a, c, cA, kA, q1, -⟩ := Cond.exactly_spec (args := #[Value.ref b]) (first := s) (o := none) (s := s) (idx := []) (t := .string "BreakingDisk" k) (cls := "java/lang/String") h
    exact ⟨a, q1⟩
  refine ⟨fun w hw => x_nf_of w hw _ _ (hts w (x_nf_tbl w hw)), fun t ht => ?_⟩
  have hr := hts _ (x_str_tbl t ht)
  have hx : (Cond.exactly (.string "BreakingDisk" t.1) "java/lang/String").before #[Value.ref b] s = true := by
    unfold x_str at ht
    rcases List.mem_cons.mp ht with rfl | ht
    · exact hs _ (by decide +kernel)
    rcases List.mem_cons.mp ht with rfl | ht
    · exact hs _ (by decide +kernel)
    rcases List.mem_cons.mp ht with rfl | ht
    · exact hs _ (by decide +kernel)
    rcases List.mem_cons.mp ht with rfl | ht
    · exact hs _ (by decide +kernel)
    rcases List.mem_cons.mp ht with rfl | ht
    · exact hs _ (by decide +kernel)
    rcases List.mem_cons.mp ht with rfl | ht
    · exact hs _ (by decide +kernel)
    cases ht
  obtain ⟨a, ha⟩ := hex t.1 hx
  exact ⟨a, vk_R.of hr ha⟩
theorem x_worldN {b : Nat} {s : State} (hg : (Jvm.Cond.and given_1 narrow_1).before #[Value.ref b] s = true) : x_N s := by
  have hs := flat_of_before _ hg
  exact ⟨va_Nc.of (hs _ (by decide +kernel)), va_Nc.of (hs _ (by decide +kernel)), va_Nc.of (hs _ (by decide +kernel))⟩
theorem x_worldT {b : Nat} {s : State} (hts : ∀ w ∈ lw_tbl, w.before #[Value.ref b] s = true) (hg : (Jvm.Cond.and given_1 narrow_1).before #[Value.ref b] s = true) {M : Nat → Prop} (hM : ∀ a : Nat, a < s.heap.size → ¬ M a) : x_T M s s.heap := by
  have hs := flat_of_before _ hg
  exact ⟨vx_Zqof (hts _ (by decide +kernel)) (hts _ (by decide +kernel)) (hs _ (by decide +kernel)) hM, vx_Zqof (hts _ (by decide +kernel)) (hts _ (by decide +kernel)) (hs _ (by decide +kernel)) hM⟩
