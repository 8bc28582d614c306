/-! ===== the law's loop; the law from its entry ===== -/
section LL
variable {p : Program} {l : Launch} {e : Env} {s : State} {m : MethodId} {below : List Frame} {meth : Method} {c : Code} {H : Heap} {locs : List Loc} {Q : State → Prop}
variable {ls : Array Slot} {G : WG} {a bb : Nat → Nat} {o b i L c0 s0 : Nat} {S : CS} {n : Nat × Nat × Nat} {M : MS} {f : Nat → Int64} {xs : Nat → Int32} {args : Array Value}
set_option maxHeartbeats 8000000 in
set_option maxRecDepth 100000 in
/-- a turn of the loop, from the switch on -/
theorem law_sw (I : lcIn p l s m args c H locs ls G a bb o b i L c0 s0 S n M f xs) (KK : lcK p l e s m args below meth c Q G a bb o b i c0 s0) {v : Int32} (hv : vp_in v 32) : W p l e room_1 s m args below meth c H locs c0 s0 Q (F0 m 39 ls [.int v]) := by
  obtain ⟨j, hj, rfl⟩ := vp_in_of hv (by decide)
  have dflt : ∀ (hd : (nI j).toInt < 0 ∨ 29 < (nI j).toInt), W p l e room_1 s m args below meth c H locs c0 s0 Q (F0 m 39 ls [.int (nI j)]) := by
    intro hd
    obtain ⟨hst, hL, S9, hK, hE, hX, hbl, hLL, hi, hf, h, hC, hM, hO, hS, hl⟩ := I
    obtain ⟨hx, hb, hml, hown, hts⟩ := S9
    refine lv_tableOut (tgt := 1653) hx hb dL_law_39 hd (by decide) ?_
    refine W.widen (k := c0 + 2) (n := s0 + 12) (by omega) (by omega) ?_
    exact KK _ _ _ _ _ _ _ h hC hM hO hS hl
  have hx := I.2.2.1.1
  have hb := I.2.2.1.2.1
  rcases (show j = 0 ∨ j = 1 ∨ j = 2 ∨ j = 3 ∨ j = 4 ∨ j = 5 ∨ j = 6 ∨ j = 7 ∨ j = 8 ∨ j = 9 ∨ j = 10 ∨ j = 11 ∨ j = 12 ∨ j = 13 ∨ j = 14 ∨ j = 15 ∨ j = 16 ∨ j = 17 ∨ j = 18 ∨ j = 19 ∨ j = 20 ∨ j = 21 ∨ j = 22 ∨ j = 23 ∨ j = 24 ∨ j = 25 ∨ j = 26 ∨ j = 27 ∨ j = 28 ∨ j = 29 ∨ 29 < j by omega) with rfl | rfl | rfl | rfl | rfl | rfl | rfl | rfl | rfl | rfl | rfl | rfl | rfl | rfl | rfl | rfl | rfl | rfl | rfl | rfl | rfl | rfl | rfl | rfl | rfl | rfl | rfl | rfl | rfl | rfl | hj2
  · exact lv_tableIn (tgt := 172) hx hb dL_law_39 (off := 133) (by decide) (by decide) (by decide) (by decide) (lc_addLoad I KK)
  · exact lv_tableIn (tgt := 240) hx hb dL_law_39 (off := 201) (by decide) (by decide) (by decide) (by decide) (lc_addBattery I KK)
  · exact lv_tableIn (tgt := 320) hx hb dL_law_39 (off := 281) (by decide) (by decide) (by decide) (by decide) (lc_addGenerator I KK)
  · exact lv_tableIn (tgt := 400) hx hb dL_law_39 (off := 361) (by decide) (by decide) (by decide) (by decide) (lc_switchLoad I KK)
  · exact lv_tableIn (tgt := 484) hx hb dL_law_39 (off := 445) (by decide) (by decide) (by decide) (by decide) (lc_setPower I KK)
  · exact lv_tableIn (tgt := 552) hx hb dL_law_39 (off := 513) (by decide) (by decide) (by decide) (by decide) (lc_refuel I KK)
  · exact lv_tableIn (tgt := 620) hx hb dL_law_39 (off := 581) (by decide) (by decide) (by decide) (by decide) (lc_setFailures I KK)
  · exact lv_tableIn (tgt := 688) hx hb dL_law_39 (off := 649) (by decide) (by decide) (by decide) (by decide) (lc_setTests I KK)
  · exact lv_tableIn (tgt := 768) hx hb dL_law_39 (off := 729) (by decide) (by decide) (by decide) (by decide) (lc_setTimes I KK)
  · exact lv_tableIn (tgt := 836) hx hb dL_law_39 (off := 797) (by decide) (by decide) (by decide) (by decide) (lc_setMains I KK)
  · exact lv_tableIn (tgt := 877) hx hb dL_law_39 (off := 838) (by decide) (by decide) (by decide) (by decide) (lc_pass I KK)
  · exact lv_tableIn (tgt := 933) hx hb dL_law_39 (off := 894) (by decide) (by decide) (by decide) (by decide) (lc_time I KK)
  · exact lv_tableIn (tgt := 946) hx hb dL_law_39 (off := 907) (by decide) (by decide) (by decide) (by decide) (lc_outage I KK)
  · exact lv_tableIn (tgt := 959) hx hb dL_law_39 (off := 920) (by decide) (by decide) (by decide) (by decide) (lc_stateOf I KK)
  · exact lv_tableIn (tgt := 1015) hx hb dL_law_39 (off := 976) (by decide) (by decide) (by decide) (by decide) (lc_demand I KK)
  · exact lv_tableIn (tgt := 1028) hx hb dL_law_39 (off := 989) (by decide) (by decide) (by decide) (by decide) (lc_shedOrder I KK)
  · exact lv_tableIn (tgt := 1084) hx hb dL_law_39 (off := 1045) (by decide) (by decide) (by decide) (by decide) (lc_returnOrder I KK)
  · exact lv_tableIn (tgt := 1140) hx hb dL_law_39 (off := 1101) (by decide) (by decide) (by decide) (by decide) (lc_chargeOf I KK)
  · exact lv_tableIn (tgt := 1196) hx hb dL_law_39 (off := 1157) (by decide) (by decide) (by decide) (by decide) (lc_capacityOf I KK)
  · exact lv_tableIn (tgt := 1252) hx hb dL_law_39 (off := 1213) (by decide) (by decide) (by decide) (by decide) (lc_generatorState I KK)
  · exact lv_tableIn (tgt := 1308) hx hb dL_law_39 (off := 1269) (by decide) (by decide) (by decide) (by decide) (lc_fuelOf I KK)
  · exact lv_tableIn (tgt := 1364) hx hb dL_law_39 (off := 1325) (by decide) (by decide) (by decide) (by decide) (lc_batteryMinutes I KK)
  · exact lv_tableIn (tgt := 1377) hx hb dL_law_39 (off := 1338) (by decide) (by decide) (by decide) (by decide) (lc_energyOf I KK)
  · exact lv_tableIn (tgt := 1433) hx hb dL_law_39 (off := 1394) (by decide) (by decide) (by decide) (by decide) (lc_darkMinutes I KK)
  · exact lv_tableIn (tgt := 1489) hx hb dL_law_39 (off := 1450) (by decide) (by decide) (by decide) (by decide) (lc_fromMains I KK)
  · exact lv_tableIn (tgt := 1502) hx hb dL_law_39 (off := 1463) (by decide) (by decide) (by decide) (by decide) (lc_fromGenerators I KK)
  · exact lv_tableIn (tgt := 1515) hx hb dL_law_39 (off := 1476) (by decide) (by decide) (by decide) (by decide) (lc_fromBatteries I KK)
  · exact lv_tableIn (tgt := 1528) hx hb dL_law_39 (off := 1489) (by decide) (by decide) (by decide) (by decide) (lc_intoBatteries I KK)
  · exact lv_tableIn (tgt := 1541) hx hb dL_law_39 (off := 1502) (by decide) (by decide) (by decide) (by decide) (lc_failedStarts I KK)
  · exact lv_tableIn (tgt := 1597) hx hb dL_law_39 (off := 1558) (by decide) (by decide) (by decide) (by decide) (lc_tests I KK)
  · exact dflt (Or.inr (by rw [nI_toInt (by omega)]; omega))
end LL
/-! THE CLAIM OUT OF ONE WALK OF THE LAW'S BODY. Your part is whole_start (and what it stands on); all else here is the same for every law, but numbers. -/
def R_law : String := "BackupPowerLaw"
def lw_P (b : Addr) (xs : List Int32) (args : Array Value) (s : State) : Prop := args = #[.ref b] ∧ s.IntsAt b xs ∧ xs.length ≤ 2048 ∧ (Jvm.Cond.and given_1 narrow_1).before args s = true
def lw_Q (_ : Array Value) (s : State) (o : Outcome) (t : State) : Prop := o = .returned (some (.int 1)) ∧ Framed s o t [] 670433 7084805
def lw_Z (below : List Frame) (a : Array Value) (s : State) : State → Prop := fun t => ∃ o, t.status = .running ∧ Ended t below o ∧ lw_Q a s o t
/-- the law's own end, with 1 on the stack, nothing written that was there before, its room as the claim has it -/
theorem lw_ret {p : Program} {l : Launch} {e : Env} {s : State} {m : MethodId} {below : List Frame} {meth : Method} {c : Code} {b : Nat} (hx : p.tables.exec = Jvm.exec) (hb : c.code = code) (hr : meth.sig.returnType = ret) (hlocks : meth.locks = false) {pc : Nat} {H : Heap} {ls : Array Slot} (hdg : decode code pc = .ok (.ireturn, 1)) : W p l e room_1 s m #[Value.ref b] below meth c H [] 670433 7084805 (lw_Z below #[Value.ref b] s) (F0 m pc ls [.int 1]) := by
  intro T hT X
  obtain ⟨fs, hret, hrun, hended, hW, hframe⟩ := X.leave (v := some (.int 1)) (hlocks := hlocks) (fun h => by rw [hr] at h; cases h)
  have hmeth' : T.vm.method? m = some meth := X.method'
  refine ⟨T.setFrames fs, ?_, .returned (some (.int 1)), hrun, hended, rfl, ⟨_, rfl⟩, hW, hframe⟩
  jvm_step X.here [X.here.top, hx, hb, hdg, hmeth', hr, ret, narrow_b1]
  (try refine ⟨rfl, ?_⟩); (try refine ⟨rfl, ?_⟩)
  first | (intro acts; rw [hret _ acts rfl rfl rfl]) | rw [hret _ _ rfl rfl rfl]
  exact Steps.refl _
/-- what holds at the law's entry: the machine, the code, the tables' words (any of lw_tbl by 'hts w (by decide +kernel)'), the script of L ints xs at the cell b, what the Statement gives of the start (any of its parts by flat_of_before) -/
def lw_At (p : Program) (s : State) (m : MethodId) (meth : Method) (c : Code) (b L : Nat) (xs : Nat → Int32) : Prop :=
  p.tables.exec = Jvm.exec ∧ c.code = code ∧ meth.sig.returnType = ret ∧ c.maxLocals = 7 ∧ s.vm.findClass R_law = some m.cls ∧ (∀ w ∈ lw_tbl, w.before #[Value.ref b] s = true) ∧ va_X b L xs s s.heap ∧ b < s.heap.size ∧ meth.locks = false ∧ (Jvm.Cond.and given_1 narrow_1).before #[Value.ref b] s = true

set_option maxHeartbeats 8000000 in
set_option maxRecDepth 100000 in
/-- the law's loop: at its head, with i ints read -/
theorem law_loop {p : Program} {l : Launch} {e : Env} {s : State} {m : MethodId} {below : List Frame} {meth : Method} {c : Code} {G : WG} {a bb : Nat → Nat} {o b L : Nat} {xs : Nat → Int32} (hst : l.stackTraces = false) (hLL : L ≤ 2048) (C0 : lw_At p s m meth c b L xs) (hL : LAp a bb o s.heap.size) (hK : wK G s) (hE : lEnv s) :
    ∀ (q i : Nat), i ≤ L → L < i + 4 * q → ∀ (n : Nat × Nat × Nat) (S : CS) (M : MS) (f : Nat → Int64) (H : Heap) (locs : List Loc) (ls : Array Slot), Iv n dd S M → wC G a S H → wM G bb n M H → va_P G.1 vwCl (lO G o f) H → va_S (LF s.heap.size) s.heap H locs → lv_has ls 7 [(4, .int (nI i)), (0, .ref b), (1, .ref (a 0)), (2, .ref (bb 0)), (3, .ref o)] →
      W p l e room_1 s m #[Value.ref b] below meth c H locs (60 + i) (400 + 3 * i) (lw_Z below #[Value.ref b] s) (F0 m 23 ls []) := by
  obtain ⟨hx, hb, hr, hml, hown, hts0, hX, hbl, hlocks, hgv⟩ := C0
  have hts : ∀ w ∈ wsL_law, w.before #[Value.ref b] s = true := fun w h => hts0 w (wsL_law_in w h)
  have hbA : ¬ LF s.heap.size b := Nat.not_le.mpr hbl
  have S9 : LS9 p m c s #[Value.ref b] := ⟨hx, hb, hml, hown, hts⟩
  intro q
  induction q with
  | zero => intro i h1 h2; omega
  | succ q ih =>
    intro i h1 h2 n S M f H locs ls h hC hM hO hS hl
    refine lv_iload hx hb dL_law_23 (lv_at hl 0 rfl) ?_
    refine lv_aload_n hx hb dL_law_25 rfl (lv_at hl 1 rfl) ?_
    refine va_slen hx hb hX hbl hbA hS dL_law_26 ?_
    refine lv_iconst (v := 4) hx hb dL_law_27 rfl ?_
    refine lv_isub hx hb dL_law_28 ?_
    have eL : (Int32.ofNat L - 4).toInt = (L : Int) - 4 := by
      have e1 : (Int32.ofNat L).toInt = (L : Int) := nI_toInt (n := L) (by omega)
      have e4 : (4 : Int32).toInt = 4 := by decide
      rw [i_sub (by omega) (by omega), e1, e4]
    refine lv_icmp_gt (tgt := 1659) hx hb dL_law_29 (by decide) (fun _ => ?_) (fun c1 => ?_)
    · refine lv_iconst (v := 1) hx hb dL_law_1659 rfl ?_
      refine va_forget (fun q hq => hS.2.2 q hq) ?_
      refine W.widen (k := 670433) (n := 7084805) (by omega) (by omega) ?_
      exact lw_ret hx hb hr hlocks dL_law_1660
    · have hi4 : i + 4 ≤ L := by
        rw [i_lt, eL, nI_toInt (by omega)] at c1
        omega
      refine lv_aload_n hx hb dL_law_32 rfl (lv_at hl 1 rfl) ?_
      refine lv_iload hx hb dL_law_33 (lv_at hl 0 rfl) ?_
      refine va_sld hx hb hX hbl hbA hS (vp_in_nI (by omega) (by omega)) dL_law_35 ?_
      refine lv_bipush (v := 31) hx hb dL_law_36 (by decide) ?_
      refine lv_iand hx hb dL_law_38 ?_
      refine law_sw (i := i) (L := L) (c0 := 60 + i) (s0 := 400 + 3 * i) ⟨hst, hL, S9, hK, hE, hX, hbl, hLL, hi4, ⟨by show _ ≤ 670433; omega, by show _ ≤ 7084805; omega⟩, h, hC, hM, hO, hS, hl⟩ (fun n2 S2 M2 f2 H1 locs1 ls1 h hC hM hO hS hl => ?_) (pk_andIn _ 5 (by decide) (by decide))
      refine lv_iinc (k := 0) (v := nI (i + 4)) (lv' := [(4, .int (nI (i + 4))), (0, .ref b), (1, .ref (a 0)), (2, .ref (bb 0)), (3, .ref o)]) hx hb dL_law_1653 hl rfl (nI_add i 4) (by decide) rfl (fun ls hl => ?_)
      refine lv_goto (tgt := 23) hx hb dL_law_1656 (by decide) ?_
      refine W.widen (k := 60 + (i + 4)) (n := 400 + 3 * (i + 4)) (by omega) (by omega) ?_
      exact ih (i + 4) (by omega) (by omega) n2 S2 M2 f2 H1 locs1 ls h hC hM hO hS hl
set_option maxHeartbeats 8000000 in
set_option maxRecDepth 100000 in
theorem whole_start {p : Program} {e : Env} {s : State} {m : MethodId} {below : List Frame} {meth : Method} {c : Code} (l : Launch) (hflags : l.flags = flags0) {b L : Nat} {xs : Nat → Int32} (hL : L ≤ 2048) (C0 : lw_At p s m meth c b L xs) : W p l e room_1 s m #[Value.ref b] below meth c s.heap [] 0 0 (lw_Z below #[Value.ref b] s) (entryFrame m ([Value.ref b] : List Value).toArray 7) := by
  obtain ⟨hx, hb, hr, hml, hown, hts0, hX, hbl, hlocks, hgv⟩ := id C0
  have hT : ∀ w ∈ tables_1, w.before #[Value.ref b] s = true := fun w h => hts0 w (List.mem_append_right _ h)
  have hts : ∀ w ∈ wsL_law, w.before #[Value.ref b] s = true := fun w h => hts0 w (wsL_law_in w h)
  have hN := flat_of_before _ hgv
  have hE := lEnv_of hT hN
  have hI := iEnv_of hT
  obtain ⟨G, hK⟩ := wK_of hT hts
  have hst : l.stackTraces = false := by
    unfold Launch.stackTraces
    rw [hflags]
    decide +kernel
  have hw3 : ∀ w ∈ wsX30, w.before #[Value.ref b] s = true := fun w h => hts w (inlX3 w h)
  have hw4 : ∀ w ∈ wsX40, w.before #[Value.ref b] s = true := fun w h => hts w (inlX4 w h)
  have hA : ∀ q : Nat, s.heap.size ≤ q → LF s.heap.size q := fun _ h => h
  have hS : va_S (LF s.heap.size) s.heap s.heap [] := va_S.rf
  have hP : va_P G.1 vwCl [] s.heap := fun k q h => by simp at h
  have hD : va_D (LF s.heap.size) [] := ⟨fun i j p q h => by simp at h, fun k q h => by simp at h⟩
  have hl := lv_entry ([.ref b]) (n := 7) (Nat.le_of_ble_eq_true rfl)
  rw [lg_entry_eq]
  generalize (lg_sl ([.ref b]) ++ List.replicate (7 - (lg_sl ([.ref b])).length) Slot.unset).toArray = ls at hl ⊢
  have hl : lv_has ls 7 [(0, .ref b)] := hl
  refine va_new (ci := 3) (fs := rw1 16 siN) (C := RX3) (T := TX3) (N := 16) hx hb hw3 (fun _ h => h) tyX3 tyX3_ok hown (hts (.classLink RL 8 RX3) (List.mem_of_getElem? (i := 0) (by decide +kernel))) (hts (.instantiable RX3 16) (List.mem_of_getElem? (i := 1) (by decide +kernel))) (hts (.initialized RX3) (List.mem_of_getElem? (i := 2) (by decide +kernel))) hK hP hD hS hA rfl (by decide +kernel) (Nat.le_of_ble_eq_true rfl) (Nat.le_of_ble_eq_true rfl) dL_law_0 (fun h0 H hP hD hS => ?_)
  have hP : va_P G.1 vwCl [(h0, .inr (3, rw1 16 siN))] H := hP
  have hD : va_D (LF s.heap.size) [(h0, .inr (3, rw1 16 siN))] := hD
  refine lv_dup hx hb dL_law_3 rfl ?_
  have z0 : s.heap.size ≤ h0 := hD.2 0 _ rfl
  have hF1 : ∀ q, va_A [(h0, .inr (3, rw1 16 siN))] H.size q → LF s.heap.size q := fun q h => h.elim (fun ⟨k9, e9, h9⟩ => hD.2 k9 (q, e9) h9) (fun h => Nat.le_trans hS.1 h)
  refine va_callv (va_runI (As := []) (rest := [.ref h0]) ⟨hx, hb, hml, hown, hts⟩ (c_X3_init l G h0 H.size) (cwI 0 hts gL_law_X3_init rfl rfl rfl (hts (.initialized RX3) (List.mem_of_getElem? (i := 2) (by decide +kernel))) (hts (.methodLink RL 82 yX3_init) (List.mem_of_getElem? (i := 7) (by decide +kernel))) (hts (.instanceMethod yX3_init) (List.mem_of_getElem? (i := 8) (by decide +kernel))) rfl (by decide +kernel) ⟨Nat.le_of_ble_eq_true rfl, Nat.le_of_ble_eq_true rfl⟩)
    ⟨fun a U g mk ⟨q0, q1, qP, qK, q2, q3, q4, q5, q6⟩ => ⟨q0, q1, qP, va_K.moved (u := U) (U := U.calling g mk a) (Vm.Alike.refl U.vm) qK, va_AO.moved (u := U) (U := U.calling g mk a) (Vm.Alike.refl U.vm) q2, va_AO.moved (u := U) (U := U.calling g mk a) (Vm.Alike.refl U.vm) q3, va_AO.moved (u := U) (U := U.calling g mk a) (Vm.Alike.refl U.vm) q4, va_Nw.same (u := U) (U := U.calling g mk a) (by decide +kernel) rfl q5, va_Nw.same (u := U) (U := U.calling g mk a) (by decide +kernel) rfl q6⟩,
      fun U hU hW => ⟨rfl, by rw [hU], by rw [hU]; exact hP, va_K.moved hW.alike hK, va_AO.moved hW.alike hI.1, va_AO.moved hW.alike hI.2.1, va_AO.moved hW.alike hI.2.2.1, va_Nw.warmM hW hI.2.2.2.1, va_Nw.warmM hW hI.2.2.2.2⟩⟩ rfl rfl hl.1 rfl (lv_room (Nat.le_of_ble_eq_true rfl)) dL_law_4 ⟨Nat.le_of_ble_eq_true rfl, Nat.le_of_ble_eq_true rfl⟩) hS (fun q _ h => hF1 q h) hF1 (fun a t H1 locs ht _ hw hB hz1 _ hS => ?_)
  obtain ⟨e0, ia, ha9⟩ := hw
  have zH := hS.1
  have hC : wC G a CS0 H1 := by rw [← ht]; exact hB
  have za : ∀ k, k < 20 → s.heap.size ≤ a k := fun k hk => by
    rcases Nat.eq_zero_or_pos k with e | e
    · rw [e, e0]; exact z0
    · exact Nat.le_trans (Nat.le_of_lt_succ (by have := ha9 k e hk; have := (hP 0 _ rfl).lt; omega)) (ha9 k e hk)
  refine W.widen (k := 20) (n := 155) (Nat.le_of_ble_eq_true rfl) (Nat.le_of_ble_eq_true rfl) ?_
  refine lv_astore_n (lv' := [(1, .ref h0), (0, .ref b)]) hx hb dL_law_7 rfl hl (by decide) rfl (fun ls hl => ?_)
  have hDC : va_D (LF s.heap.size) (CW G.2 a CS0) := (wl_D (sz := 0) ia).weaken (fun k q hq _ => by
    obtain ⟨h1, rfl⟩ := wl_at hq
    exact za k h1)
  refine va_new (ci := 4) (fs := rw1 40 moN) (C := RX4) (T := TX4) (N := 40) hx hb hw4 (fun _ h => h) tyX4 tyX4_ok hown (hts (.classLink RL 83 RX4) (List.mem_of_getElem? (i := 3) (by decide +kernel))) (hts (.instantiable RX4 40) (List.mem_of_getElem? (i := 4) (by decide +kernel))) (hts (.initialized RX4) (List.mem_of_getElem? (i := 5) (by decide +kernel))) hK hC hDC hS hA rfl (by decide +kernel) (Nat.le_of_ble_eq_true rfl) (Nat.le_of_ble_eq_true rfl) dL_law_8 (fun h4 H hP hD hS => ?_)
  have hC : wC G a CS0 H := P_left hP
  have hP4 : va_P G.1 vwCl [(h4, .inr (4, rw1 40 moN))] H := P_right hP
  have hlen : (CW G.2 a CS0).length = 20 := by simp [CW, wl]
  have g4 : (CW G.2 a CS0 ++ [(h4, .inr (4, rw1 40 moN))])[20]? = some (h4, .inr (4, rw1 40 moN)) := by rw [← hlen]; exact ap_get
  have z4 : s.heap.size ≤ h4 := hD.2 20 _ g4
  have n4 : ∀ k, k < 20 → h4 ≠ a k := fun k hk e => by
    have g9 : (CW G.2 a CS0 ++ [(h4, .inr (4, rw1 40 moN))])[k]? = some (a k, cE G.2 a CS0 k) := by
      rw [List.getElem?_append_left (by rw [hlen]; exact hk)]
      exact wl_get hk
    have := hD.1 20 k _ _ g4 g9 e
    omega
  refine lv_dup hx hb dL_law_11 rfl ?_
  have hF2 : ∀ q, va_A [(h4, .inr (4, rw1 40 moN))] H.size q → LF s.heap.size q := fun q h => h.elim (fun ⟨k9, e9, h9⟩ => by
    have hk : k9 = 0 := by
      have := (List.getElem?_eq_some_iff.mp h9).1
      simp at this
      exact this
    subst hk
    have e : h4 = q := (Prod.mk.inj (Option.some.inj h9)).1
    rw [← e]
    exact z4) (fun h => Nat.le_trans hS.1 h)
  refine va_callv (va_runI (As := []) (rest := [.ref h4]) ⟨hx, hb, hml, hown, hts⟩ (c_X4_init l G h4 H.size) (cwI 0 hts gL_law_X4_init rfl rfl rfl (hts (.initialized RX4) (List.mem_of_getElem? (i := 5) (by decide +kernel))) (hts (.methodLink RL 85 yX4_init) (List.mem_of_getElem? (i := 42) (by decide +kernel))) (hts (.instanceMethod yX4_init) (List.mem_of_getElem? (i := 43) (by decide +kernel))) rfl (by decide +kernel) ⟨Nat.le_of_ble_eq_true rfl, Nat.le_of_ble_eq_true rfl⟩)
    ⟨fun a U g mk ⟨q0, q1, qP, qK⟩ => ⟨q0, q1, qP, va_K.moved (u := U) (U := U.calling g mk a) (Vm.Alike.refl U.vm) qK⟩, fun U hU hW => ⟨rfl, by rw [hU], by rw [hU]; exact hP4, va_K.moved hW.alike hK⟩⟩ rfl rfl hl.1 rfl (lv_room (Nat.le_of_ble_eq_true rfl)) dL_law_12 ⟨Nat.le_of_ble_eq_true rfl, Nat.le_of_ble_eq_true rfl⟩) hS (fun q _ h => hF2 q h) hF2 (fun bb t H2 locs ht _ hw hB hz2 hk2 hS => ?_)
  obtain ⟨e4, ib, hb9⟩ := hw
  have hM : wM G bb (0, 0, 0) MS0 H2 := by rw [← ht]; exact hB
  have nab : ∀ i j, i < 20 → j < 27 → a i ≠ bb j := fun i j hi hj e => by
    rcases Nat.eq_zero_or_pos j with z | z
    · rw [z, e4] at e; exact n4 i hi e.symm
    · have h1 := hb9 j z hj
      have h2 := ltC hC hi
      omega
  have hC : wC G a CS0 H2 := kC hC (fun k hk => hk2 (a k) (ltC hC hk) (fun h => by
    rcases h with ⟨k9, e9, h9⟩ | h
    · have hk9 : k9 = 0 := by
        have := (List.getElem?_eq_some_iff.mp h9).1
        simp at this
        exact this
      subst hk9
      exact n4 k hk (Prod.mk.inj (Option.some.inj h9)).1
    · have := ltC hC hk; omega))
  have zb : ∀ k, k < 27 → s.heap.size ≤ bb k := fun k hk => by
    rcases Nat.eq_zero_or_pos k with e | e
    · rw [e, e4]; exact z4
    · have h1 := hb9 k e hk
      have h2 := (hP4 0 _ rfl).lt
      have h3 : h4 < H.size := h2
      omega
  refine W.widen (k := 50) (n := 350) (Nat.le_of_ble_eq_true rfl) (Nat.le_of_ble_eq_true rfl) ?_
  refine lv_astore_n (lv' := [(2, .ref h4), (1, .ref h0), (0, .ref b)]) hx hb dL_law_15 rfl hl (by decide) rfl (fun ls hl => ?_)
  refine lv_iconst (v := 1) hx hb dL_law_16 rfl ?_
  have hlM : (MW G.2 bb (0, 0, 0) MS0).length = 27 := by simp [MW, wl]
  have hDM : va_D (LF s.heap.size) (MW G.2 bb (0, 0, 0) MS0) := (wl_D (sz := 0) ib).weaken (fun k q hq _ => by
    obtain ⟨h1, rfl⟩ := wl_at hq
    exact zb k h1)
  have hD2 : va_D (LF s.heap.size) (CW G.2 a CS0 ++ MW G.2 bb (0, 0, 0) MS0) := hDC.app hDM (fun i j p q hp hq => by
    obtain ⟨h1, rfl⟩ := wl_at hp
    obtain ⟨h2, rfl⟩ := wl_at hq
    exact nab i j h1 h2)
  refine nwJ (G := G) (N' := 1) hx hb (hts (.arrayClass .long) (List.mem_of_getElem? (i := 6) (by decide +kernel))) hK (va_P.app hC hM) hD2 hS hA (by decide) (by decide) (by decide) (Nat.le_of_ble_eq_true rfl) (Nat.le_of_ble_eq_true rfl) dL_law_17 (fun o H hP hD hS => ?_)
  have hC : wC G a CS0 H := P_left (P_left hP)
  have hM : wM G bb (0, 0, 0) MS0 H := P_right (P_left hP)
  have hO : va_P G.1 vwCl (lO G o (fun _ => 0)) H := P_right hP
  have go : (CW G.2 a CS0 ++ MW G.2 bb (0, 0, 0) MS0 ++ [(o, .inl (G.2 5, 1, .inr (.inl (fun _ => 0))))])[47]? = some (o, .inl (G.2 5, 1, .inr (.inl (fun _ => 0)))) := by
    have : (CW G.2 a CS0 ++ MW G.2 bb (0, 0, 0) MS0).length = 47 := by rw [List.length_append, hlen, hlM]
    rw [← this]
    exact ap_get
  have noa : ∀ k, k < 20 → o ≠ a k := fun k hk e => by
    have g9 : (CW G.2 a CS0 ++ MW G.2 bb (0, 0, 0) MS0 ++ [(o, .inl (G.2 5, 1, .inr (.inl (fun _ => 0))))])[k]? = some (a k, cE G.2 a CS0 k) := by
      rw [List.getElem?_append_left (by rw [List.length_append, hlen, hlM]; omega), List.getElem?_append_left (by rw [hlen]; exact hk)]
      exact wl_get hk
    have := hD.1 47 k _ _ go g9 e
    omega
  have nob : ∀ k, k < 27 → o ≠ bb k := fun k hk e => by
    have g9 : (CW G.2 a CS0 ++ MW G.2 bb (0, 0, 0) MS0 ++ [(o, .inl (G.2 5, 1, .inr (.inl (fun _ => 0))))])[20 + k]? = some (bb k, mE G.2 bb (0, 0, 0) MS0 k) := by
      rw [List.getElem?_append_left (by rw [List.length_append, hlen, hlM]; omega), List.getElem?_append_right (by rw [hlen]; omega), hlen, Nat.add_sub_cancel_left]
      exact wl_get hk
    have := hD.1 47 (20 + k) _ _ go g9 e
    omega
  refine lv_astore_n (lv' := [(3, .ref o), (2, .ref h4), (1, .ref h0), (0, .ref b)]) hx hb dL_law_19 rfl hl (by decide) rfl (fun ls hl => ?_)
  refine lv_iconst (v := 0) hx hb dL_law_20 rfl ?_
  refine lv_istore (lv' := [(4, .int 0), (3, .ref o), (2, .ref h4), (1, .ref h0), (0, .ref b)]) hx hb dL_law_21 hl (by decide) rfl (fun ls hl => ?_)
  refine W.widen (k := 60 + 0) (n := 400 + 3 * 0) (Nat.le_of_ble_eq_true rfl) (Nat.le_of_ble_eq_true rfl) ?_
  refine law_loop hst hL C0 ⟨ia, ib, nab, noa, nob, za, zb, hD.2 47 _ go⟩ hK hE 600 0 (Nat.zero_le L) (by omega) (0, 0, 0) CS0 MS0 (fun _ => 0) H _ ls Iv_0 hC hM hO hS ?_
  have hl2 := lv_sub hl [0, 4, 3, 2, 1] (l' := [(4, .int 0), (0, .ref b), (1, .ref h0), (2, .ref h4), (3, .ref o)]) rfl
  rw [e0, e4]
  exact hl2
