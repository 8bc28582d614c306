/-! ===== what the start of the law gives: classes, arrays, texts, statics; the first state ===== -/
theorem strOf {args : Array Value} {s : State} {own tx : String} {k : Nat} (h1 : (Cond.stringRef own k tx).before args s = true) (h2 : (Cond.exactly (.string own k) "java/lang/String").before args s = true) : ∃ sa, vk_R own k tx sa s := by
  obtain ⟨a, c, cell, kc, e, -⟩ := Cond.exactly_spec (args := args) (first := s) (o := none) (s := s) (idx := []) (t := .string own k) (cls := "java/lang/String") h2
  exact ⟨a, vk_R.of h1 e⟩
section EN
variable {args : Array Value} {s : State}
theorem lEnv_of (hT : ∀ w ∈ tables_1, w.before args s = true) (hN : ∀ w ∈ flatC (Jvm.Cond.and given_1 narrow_1), w.before args s = true) : lEnv s := by
  refine ⟨⟨?_, ?_, ?_, ?_⟩, ?_, ?_⟩
  · exact vx_Zqof (args := args) (hT (.laysStatic Bundle.tN "UNASSIGNED_STACK" Bundle.steD) (List.mem_of_getElem? (i := 278) (by decide +kernel))) (hT (.initialized Bundle.tN) (List.mem_of_getElem? (i := 6) (by decide +kernel))) (hN (.isRef (.static Bundle.tN "UNASSIGNED_STACK" Bundle.steD)) (List.mem_of_getElem? (i := 4) (by decide +kernel))) (fun q hq => Nat.not_le.mpr hq)
  · exact vx_Zqof (args := args) (hT (.laysStatic Bundle.tN "SUPPRESSED_SENTINEL" Bundle.listD) (List.mem_of_getElem? (i := 280) (by decide +kernel))) (hT (.initialized Bundle.tN) (List.mem_of_getElem? (i := 6) (by decide +kernel))) (hN (.isRef (.static Bundle.tN "SUPPRESSED_SENTINEL" Bundle.listD)) (List.mem_of_getElem? (i := 5) (by decide +kernel))) (fun q hq => Nat.not_le.mpr hq)
  · unfold xStr
    exact List.forall_mem_cons.mpr ⟨strOf (hT (.stringRef RX3 52 "rank or power is out of range") (List.mem_of_getElem? (i := 292) (by decide +kernel))) (hN (.exactly (.string RX3 52) "java/lang/String") (List.mem_of_getElem? (i := 27) (by decide +kernel))), List.forall_mem_cons.mpr ⟨strOf (hT (.stringRef RX3 62 "there are 10 loads") (List.mem_of_getElem? (i := 328) (by decide +kernel))) (hN (.exactly (.string RX3 62) "java/lang/String") (List.mem_of_getElem? (i := 60) (by decide +kernel))), List.forall_mem_cons.mpr ⟨strOf (hT (.stringRef RX3 69 "capacity, rate or charging is out of range") (List.mem_of_getElem? (i := 346) (by decide +kernel))) (hN (.exactly (.string RX3 69) "java/lang/String") (List.mem_of_getElem? (i := 83) (by decide +kernel))), List.forall_mem_cons.mpr ⟨strOf (hT (.stringRef RX3 74 "there are 3 batteries") (List.mem_of_getElem? (i := 347) (by decide +kernel))) (hN (.exactly (.string RX3 74) "java/lang/String") (List.mem_of_getElem? (i := 131) (by decide +kernel))), List.forall_mem_cons.mpr ⟨strOf (hT (.stringRef RX3 77 "power, delay or tank is out of range") (List.mem_of_getElem? (i := 359) (by decide +kernel))) (hN (.exactly (.string RX3 77) "java/lang/String") (List.mem_of_getElem? (i := 159) (by decide +kernel))), List.forall_mem_cons.mpr ⟨strOf (hT (.stringRef RX3 82 "there are 3 generators") (List.mem_of_getElem? (i := 360) (by decide +kernel))) (hN (.exactly (.string RX3 82) "java/lang/String") (List.mem_of_getElem? (i := 203) (by decide +kernel))), List.forall_mem_cons.mpr ⟨strOf (hT (.stringRef RX3 92 "power is out of range") (List.mem_of_getElem? (i := 400) (by decide +kernel))) (hN (.exactly (.string RX3 92) "java/lang/String") (List.mem_of_getElem? (i := 265) (by decide +kernel))), List.forall_mem_cons.mpr ⟨strOf (hT (.stringRef RX3 101 "units is out of range") (List.mem_of_getElem? (i := 413) (by decide +kernel))) (hN (.exactly (.string RX3 101) "java/lang/String") (List.mem_of_getElem? (i := 335) (by decide +kernel))), List.forall_mem_cons.mpr ⟨strOf (hT (.stringRef RX3 115 "failures is out of range") (List.mem_of_getElem? (i := 421) (by decide +kernel))) (hN (.exactly (.string RX3 115) "java/lang/String") (List.mem_of_getElem? (i := 369) (by decide +kernel))), List.forall_mem_cons.mpr ⟨strOf (hT (.stringRef RX3 120 "period or minutes is out of range") (List.mem_of_getElem? (i := 429) (by decide +kernel))) (hN (.exactly (.string RX3 120) "java/lang/String") (List.mem_of_getElem? (i := 407) (by decide +kernel))), List.forall_mem_cons.mpr ⟨strOf (hT (.stringRef RX3 128 "start or stagger is out of range") (List.mem_of_getElem? (i := 437) (by decide +kernel))) (hN (.exactly (.string RX3 128) "java/lang/String") (List.mem_of_getElem? (i := 455) (by decide +kernel))), List.forall_mem_cons.mpr ⟨strOf (hT (.stringRef RX3 130 "minutes is out of range") (List.mem_of_getElem? (i := 445) (by decide +kernel))) (hN (.exactly (.string RX3 130) "java/lang/String") (List.mem_of_getElem? (i := 503) (by decide +kernel))), List.forall_mem_cons.mpr ⟨strOf (hT (.stringRef RX3 202 "there is no such load") (List.mem_of_getElem? (i := 386) (by decide +kernel))) (hN (.exactly (.string RX3 202) "java/lang/String") (List.mem_of_getElem? (i := 234) (by decide +kernel))), List.forall_mem_cons.mpr ⟨strOf (hT (.stringRef RX3 205 "there is no such battery") (List.mem_of_getElem? (i := 588) (by decide +kernel))) (hN (.exactly (.string RX3 205) "java/lang/String") (List.mem_of_getElem? (i := 583) (by decide +kernel))), List.forall_mem_cons.mpr ⟨strOf (hT (.stringRef RX3 207 "there is no such generator") (List.mem_of_getElem? (i := 412) (by decide +kernel))) (hN (.exactly (.string RX3 207) "java/lang/String") (List.mem_of_getElem? (i := 297) (by decide +kernel))), List.forall_mem_cons.mpr ⟨strOf (hT (.stringRef RX3 213 "there is no such place") (List.mem_of_getElem? (i := 569) (by decide +kernel))) (hN (.exactly (.string RX3 213) "java/lang/String") (List.mem_of_getElem? (i := 543) (by decide +kernel))), fun _ h => absurd h List.not_mem_nil⟩⟩⟩⟩⟩⟩⟩⟩⟩⟩⟩⟩⟩⟩⟩⟩
  · unfold xB
    exact List.forall_mem_cons.mpr ⟨va_Nw.of (w := .castable (exN 0) (exN 0)) (by decide +kernel) (hT (.castable (exN 0) (exN 0)) (List.mem_of_getElem? (i := 253) (by decide +kernel))), List.forall_mem_cons.mpr ⟨va_Nw.of (w := .castable (exN 1) (exN 1)) (by decide +kernel) (hT (.castable (exN 1) (exN 1)) (List.mem_of_getElem? (i := 321) (by decide +kernel))), List.forall_mem_cons.mpr ⟨va_Nw.of (w := .castable (exN 2) (exN 2)) (by decide +kernel) (hT (.castable (exN 2) (exN 2)) (List.mem_of_getElem? (i := 379) (by decide +kernel))), List.forall_mem_cons.mpr ⟨va_Nw.of (w := .declares (Bundle.initS "java/lang/RuntimeException")) (by decide +kernel) (hT (.declares (Bundle.initS "java/lang/RuntimeException")) (List.mem_of_getElem? (i := 255) (by decide +kernel))), List.forall_mem_cons.mpr ⟨va_Nw.of (w := .declares (Bundle.initS "java/lang/Exception")) (by decide +kernel) (hT (.declares (Bundle.initS "java/lang/Exception")) (List.mem_of_getElem? (i := 257) (by decide +kernel))), List.forall_mem_cons.mpr ⟨va_Nw.of (w := .declares (Bundle.initS "java/lang/Throwable")) (by decide +kernel) (hT (.declares (Bundle.initS "java/lang/Throwable")) (List.mem_of_getElem? (i := 259) (by decide +kernel))), fun _ h => absurd h List.not_mem_nil⟩⟩⟩⟩⟩⟩
  · exact va_Nc.of (args := args) (hN (.not (.castable (exN 1) (exN 0))) (List.mem_of_getElem? (i := 11) (by decide +kernel)))
  · exact va_Nc.of (args := args) (hN (.not (.castable (exN 0) (exN 2))) (List.mem_of_getElem? (i := 25) (by decide +kernel)))
theorem iEnv_of (hT : ∀ w ∈ tables_1, w.before args s = true) : iEnv s :=
  ⟨va_AO.of (A := args) (hT (.arrayOver (.object RX2)) (List.mem_of_getElem? (i := 22) (by decide +kernel))), va_AO.of (A := args) (hT (.arrayOver (.object RX0)) (List.mem_of_getElem? (i := 24) (by decide +kernel))), va_AO.of (A := args) (hT (.arrayOver (.object RX1)) (List.mem_of_getElem? (i := 26) (by decide +kernel))), va_Nw.of (by decide +kernel) (hT (.methodLinkNest RX3 44 yX0_init RX3) (List.mem_of_getElem? (i := 55) (by decide +kernel))), va_Nw.of (by decide +kernel) (hT (.methodLinkNest RX3 45 yX1_init RX3) (List.mem_of_getElem? (i := 83) (by decide +kernel)))⟩
theorem arrI_of {ty : FieldType} (hk : ty.toString = ty.toString) (h : (Cond.arrayClass ty).before args s = true) : ∃ cA, ArrOfT s cA ty ∧ s.vm.findClass ("[" ++ ty.toString) = some cA := by
  obtain ⟨cA, kA, comp, h1, h2, h3⟩ := Cond.arrayClass_spec (args := args) (first := s) (o := none) (s := s) (idx := []) h
  exact ⟨cA, fun N z => ⟨(fun k h => by cases h), kA, h2, comp, h3⟩, h1⟩
theorem arrO_of {C : String} (h : (Cond.arrayOver (.object C)).before args s = true) : ∃ cA, ArrOfT s cA (.object C) ∧ va_RA s cA (.object C) := by
  obtain ⟨comp, cA, kA, h1, -, h2, h3, h4⟩ := Cond.arrayOver_spec (args := args) (first := s) (o := none) (s := s) (idx := []) h
  exact ⟨cA, fun N z => ⟨(fun k h => by cases h), kA, h2, comp, h3⟩, kA, comp, h2, h3, h1, h4⟩
theorem wK_of (hT : ∀ w ∈ tables_1, w.before args s = true) (hW : ∀ w ∈ wsL_law, w.before args s = true) : ∃ G : WG, wK G s := by
  obtain ⟨c0, j0, k0⟩ := u_known (ws := wsX00) (C := RX0) (T := TX0) (N := 6) (n := 6) (fun w h => hW w (inlX0 w h)) (fun _ h => h) (hT (.instantiable RX0 6) (List.mem_of_getElem? (i := 54) (by decide +kernel)))
  obtain ⟨c1, j1, k1⟩ := u_known (ws := wsX10) (C := RX1) (T := TX1) (N := 15) (n := 15) (fun w h => hW w (inlX1 w h)) (fun _ h => h) (hT (.instantiable RX1 15) (List.mem_of_getElem? (i := 82) (by decide +kernel)))
  obtain ⟨c2, j2, k2⟩ := u_known (ws := wsX20) (C := RX2) (T := TX2) (N := 6) (n := 6) (fun w h => hW w (inlX2 w h)) (fun _ h => h) (hT (.instantiable RX2 6) (List.mem_of_getElem? (i := 27) (by decide +kernel)))
  obtain ⟨c3, j3, k3⟩ := u_known (ws := wsX30) (C := RX3) (T := TX3) (N := 16) (n := 16) (fun w h => hW w (inlX3 w h)) (fun _ h => h) (hT (.instantiable RX3 16) (List.mem_of_getElem? (i := 14) (by decide +kernel)))
  obtain ⟨c4, j4, k4⟩ := u_known (ws := wsX40) (C := RX4) (T := TX4) (N := 40) (n := 40) (fun w h => hW w (inlX4 w h)) (fun _ h => h) (hT (.instantiable RX4 40) (List.mem_of_getElem? (i := 639) (by decide +kernel)))
  obtain ⟨y0, a0, b0⟩ := arrI_of (args := args) (s := s) (ty := .int) rfl (hT (.arrayClass .int) (List.mem_of_getElem? (i := 765) (by decide +kernel)))
  obtain ⟨y1, a1, b1⟩ := arrI_of (args := args) (s := s) (ty := .boolean) rfl (hT (.arrayClass .boolean) (List.mem_of_getElem? (i := 766) (by decide +kernel)))
  obtain ⟨y5, a5, b5⟩ := arrI_of (args := args) (s := s) (ty := .long) rfl (hT (.arrayClass .long) (List.mem_of_getElem? (i := 985) (by decide +kernel)))
  obtain ⟨y2, a2, b2⟩ := arrO_of (hT (.arrayOver (.object RX2)) (List.mem_of_getElem? (i := 22) (by decide +kernel)))
  obtain ⟨y3, a3, b3⟩ := arrO_of (hT (.arrayOver (.object RX0)) (List.mem_of_getElem? (i := 24) (by decide +kernel)))
  obtain ⟨y4, a4, b4⟩ := arrO_of (hT (.arrayOver (.object RX1)) (List.mem_of_getElem? (i := 26) (by decide +kernel)))
  refine ⟨((fun k => if k = 0 then c0 else if k = 1 then c1 else if k = 2 then c2 else if k = 3 then c3 else c4, fun k => if k = 0 then j0 else if k = 1 then j1 else if k = 2 then j2 else if k = 3 then j3 else j4), fun k => if k = 0 then y0 else if k = 1 then y1 else if k = 2 then y2 else if k = 3 then y3 else if k = 4 then y4 else y5), ?_, ?_⟩
  · intro k q hq
    match k, hq with
    | 0, hq => cases hq; exact k0
    | 1, hq => cases hq; exact k1
    | 2, hq => cases hq; exact k2
    | 3, hq => cases hq; exact k3
    | 4, hq => cases hq; exact k4
    | k + 5, hq => simp [vwCl] at hq
  · intro k q hq
    match k, hq with
    | 0, hq => cases hq; exact ⟨a0, b0⟩
    | 1, hq => cases hq; exact ⟨a1, b1⟩
    | 2, hq => cases hq; exact ⟨a2, b2⟩
    | 3, hq => cases hq; exact ⟨a3, b3⟩
    | 4, hq => cases hq; exact ⟨a4, b4⟩
    | 5, hq => cases hq; exact ⟨a5, b5⟩
    | k + 6, hq => simp [wT] at hq
end EN
theorem cs0_s : ∀ k, k < 16 → 6 ≤ k → CS0.1 k = MS0.1 (sr k) := by decide
theorem Iv_0 : Iv (0, 0, 0) dd CS0 MS0 := by
  have i0 := i_0
  refine ⟨⟨fun k h1 h2 i => ?_, fun k h1 i => rfl, fun k h1 h2 i => rfl, fun k h1 h2 => cs0_s k (by omega) h1⟩, ⟨rfl, rfl, rfl, fun i hi => rfl⟩, ⟨fun i _ => rfl, fun i _ => ⟨rfl, rfl, rfl, rfl⟩, fun i _ => ⟨rfl, rfl, rfl⟩⟩, fun k hk => absurd hk (Nat.not_lt_zero k), fun i => ?_, fun i => ?_, fun i h1 => ?_, isB_1, ⟨by decide, by decide, by decide⟩⟩
  · show (if k = 0 then nI i else 0) = 0
    rw [if_neg (by omega)]
  · show (0 ≤ (0 : Int32).toInt ∧ (0 : Int32).toInt ≤ (0 : Int32).toInt ∧ (0 : Int32).toInt ≤ 20000) ∧ (0 ≤ (0 : Int32).toInt ∧ (0 : Int32).toInt ≤ 500) ∧ (0 ≤ (0 : Int32).toInt ∧ (0 : Int32).toInt ≤ 500)
    omega
  · refine ⟨?_, ?_, Or.inl rfl⟩
    · show 0 ≤ (0 : Int32).toInt ∧ (0 : Int32).toInt ≤ (0 : Int32).toInt ∧ (0 : Int32).toInt ≤ 1000
      omega
    · show 0 ≤ (0 : Int32).toInt ∧ (0 : Int32).toInt ≤ (0 : Int32).toInt ∧ (0 : Int32).toInt ≤ 1000
      omega
  · exact absurd (show (0 : Int32) = 2 from h1) (by decide)
section NJ
variable {p : Program} {l : Launch} {e : Env} {R : Room} {s : State} {m : MethodId} {args : Array Value} {below : List Frame} {meth : Method} {c : Code} {H : Heap} {locs : List Loc} {cells slots : Nat} {Q : State → Prop}
variable {cc : ByteArray} {pc : Nat} {ls : Array Slot} {rest : List Value} {G : WG} {A : Nat → Prop} {H0 : Heap} {ws : va_W}
theorem nwJ (hx : p.tables.exec = Jvm.exec) (hb : c.code = cc) (harr : (Cond.arrayClass .long).before args s = true) (hK : wK G s) (hP : va_P G.1 vwCl ws H) (hD : va_D A ws) (hS : va_S A H0 H locs) (hA : ∀ q, H0.size ≤ q → A q)
    {n : Int32} {N' : Nat} (hn : ¬ n < 0) (hN : n.toNatClampNeg = N') (hbytes : N' * 8 ≤ 536870912) (hcells : cells + 1 ≤ R.cells) (hslots : slots + N' ≤ R.slots) (hdg : decode cc pc = .ok (.newarray .long, 2))
    (kk : ∀ (q : Nat) (H1 : Heap), va_P G.1 vwCl (ws ++ [(q, .inl (G.2 5, N', .inr (.inl (fun _ => 0))))]) H1 → va_D A (ws ++ [(q, .inl (G.2 5, N', .inr (.inl (fun _ => 0))))]) → va_S A H0 H1 locs →
      W p l e R s m args below meth c H1 locs (cells + 1) (slots + N') Q (F0 m (pc + 2) ls (.ref q :: rest))) : W p l e R s m args below meth c H locs cells slots Q (F0 m pc ls (.int n :: rest)) := by
  refine va_newa (atype := .long) (ty := .long) (a0 := (N', .inr (.inl (fun _ => 0)))) hx hb harr rfl hK hP hD hS hA (fun _ => rfl) hn hN hbytes hcells hslots hdg (fun q cA H1 hK1 hP1 hD1 hS1 => ?_)
  have h1 : s.vm.findClass ("[" ++ FieldType.long.toString) = some cA := (hK1.2 6 (cA, .long) rfl).2
  have h2 : s.vm.findClass ("[" ++ FieldType.long.toString) = some (G.2 5) := (hK.2 5 (G.2 5, .long) rfl).2
  have e3 : cA = G.2 5 := Option.some.inj (h1.symm.trans h2)
  subst e3
  exact kk q H1 hP1 hD1 hS1
end NJ
