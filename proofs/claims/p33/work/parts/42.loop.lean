/-! THE CLAIM OUT OF ONE WALK OF THE LAW'S BODY. Your part is whole_start (and what it stands on); all else here is the same for every law, but numbers. -/
def R_law : String := "BackupPowerLaw"
def lw_P (b : Addr) (xs : List Int32) (args : Array Value) (s : State) : Prop := args = #[.ref b] ∧ s.IntsAt b xs ∧ xs.length ≤ 260 ∧ (Jvm.Cond.and given_1 narrow_1).before args s = true
def lw_Q (_ : Array Value) (s : State) (o : Outcome) (t : State) : Prop := o = .returned (some (.int 1)) ∧ Framed s o t [] 600130 7301080
def lw_Z (below : List Frame) (a : Array Value) (s : State) : State → Prop := fun t => ∃ o, t.status = .running ∧ Ended t below o ∧ lw_Q a s o t
/-- the law's own end, with 1 on the stack, nothing written that was there before, its room as the claim has it -/
theorem lw_ret {p : Program} {l : Launch} {e : Env} {s : State} {m : MethodId} {below : List Frame} {meth : Method} {c : Code} {b : Nat} (hx : p.tables.exec = Jvm.exec) (hb : c.code = code) (hr : meth.sig.returnType = ret) (hlocks : meth.locks = false) {pc : Nat} {H : Heap} {ls : Array Slot} (hdg : decode code pc = .ok (.ireturn, 1)) : W p l e room_1 s m #[Value.ref b] below meth c H [] 600130 7301080 (lw_Z below #[Value.ref b] s) (F0 m pc ls [.int 1]) := by
  intro T hT X
  obtain ⟨fs, hret, hrun, hended, hW, hframe⟩ := X.leave (v := some (.int 1)) (hlocks := hlocks) (fun h => by rw [hr] at h; cases h)
  have hmeth' : T.vm.method? m = some meth := X.method'
  refine ⟨T.setFrames fs, ?_, .returned (some (.int 1)), hrun, hended, rfl, ⟨_, rfl⟩, hW, hframe⟩
  jvm_step X.here [X.here.top, hx, hb, hdg, hmeth', hr, ret, narrow_b1]
  (try refine ⟨rfl, ?_⟩); (try refine ⟨rfl, ?_⟩)
  first | (intro acts; rw [hret _ acts rfl rfl rfl]) | rw [hret _ _ rfl rfl rfl]
  exact Steps.refl _
/-- what holds at the law's entry: the machine, the code, the tables' words (any of lw_tbl by 'hts w (by decide +kernel)'), the script of L ints xs at the cell b, what the Statement gives of the start (any of its parts by flat_of_before) -/
def lw_At (p : Program) (s : State) (m : MethodId) (meth : Method) (c : Code) (b L : Nat) (xs : Nat → Int32) : Prop :=
  p.tables.exec = Jvm.exec ∧ c.code = code ∧ meth.sig.returnType = ret ∧ c.maxLocals = 15 ∧ s.vm.findClass R_law = some m.cls ∧ (∀ w ∈ lw_tbl, w.before #[Value.ref b] s = true) ∧ va_X b L xs s s.heap ∧ b < s.heap.size ∧ meth.locks = false ∧ (Jvm.Cond.and given_1 narrow_1).before #[Value.ref b] s = true
set_option maxHeartbeats 8000000 in
set_option maxRecDepth 100000 in
/-- the law's loop: at its head, behind k turns -/
theorem law_loop {p : Program} {l : Launch} {e : Env} {s : State} {m : MethodId} {below : List Frame} {meth : Method} {c : Code} {G : WG} {a : Nat → Nat} {b L : Nat} {xs : Nat → Int32} (hLL : L ≤ 260) (C0 : lw_At p s m meth c b L xs) (hL : LAp a s.heap.size) (hK : wK G s) :
    ∀ (q k : Nat), k ≤ 90 → 90 < k + q → ∀ (n : Nat × Nat × Nat) (t : Nat) (f x : Int32) (S : CS) (H : Heap) (locs : List Loc) (ls : Array Slot), t ≤ 12 * k → JI n t f S → S.1 6 = x → isB x → wC G a S H → va_S (LF s.heap.size) s.heap H locs → lv_has ls 15 [(8, .int (nI k)), (0, .ref b), (1, .ref (a 0)), (2, .ref (a 20)), (3, .int (nI n.1)), (4, .int (nI n.2.1)), (5, .int (nI n.2.2)), (6, .int f), (7, .int x)] →
      W p l e room_1 s m #[Value.ref b] below meth c H locs 40 300 (lw_Z below #[Value.ref b] s) (F0 m 30 ls []) := by
  obtain ⟨hx, hb, hr, hml, hown, hts0, hX, hbl, hlocks, hgv⟩ := C0
  have hts : ∀ w ∈ wsL_law, w.before #[Value.ref b] s = true := fun w h => hts0 w (wsL_law_in w h)
  have S9 : LS9 p m c s #[Value.ref b] := ⟨hx, hb, hml, hown, hts⟩
  have hf : 40 ≤ room_1.cells ∧ 300 ≤ room_1.slots := ⟨Nat.le_of_ble_eq_true rfl, Nat.le_of_ble_eq_true rfl⟩
  intro q
  induction q with
  | zero => intro k h1 h2; omega
  | succ q ih =>
    intro k h1 h2 n t f x S H locs ls ht hI h6 hx6 hC hS hl
    refine lv_iload hx hb dL_law_30 (lv_at hl 0 rfl) ?_
    refine lv_bipush (v := nI 90) hx hb dL_law_32 (by decide) ?_
    refine lv_icmp_ge (tgt := 583) hx hb dL_law_34 (by decide) (fun _ => ?_) (fun c1 => ?_)
    · refine lv_iconst (v := 1) hx hb dL_law_583 rfl ?_
      refine va_forget (fun q hq => hS.2.2 q hq) ?_
      refine W.widen (k := 600130) (n := 7301080) (Nat.le_of_ble_eq_true rfl) (Nat.le_of_ble_eq_true rfl) ?_
      exact lw_ret hx hb hr hlocks dL_law_584
    · have hk : k < 90 := nJ_nle (by omega) (by decide) c1
      refine lv_aload_n hx hb dL_law_37 rfl (lv_at hl 1 rfl) ?_
      refine lv_iconst (v := nI 2) hx hb dL_law_38 (by decide) ?_
      refine lv_iload hx hb dL_law_39 (lv_at hl 0 rfl) ?_
      refine lv_imul hx hb dL_law_41 ?_
      rw [pk_mul]
      refine lwCell hL S9 hK hX hbl hLL (by omega) hC hS hl.1 (Nat.le_of_ble_eq_true rfl) dL_law_42 hf (fun v H locs hC hS => ?_)
      refine lv_istore (lv' := [(9, .int v), (8, .int (nI k)), (0, .ref b), (1, .ref (a 0)), (2, .ref (a 20)), (3, .int (nI n.1)), (4, .int (nI n.2.1)), (5, .int (nI n.2.2)), (6, .int f), (7, .int x)]) hx hb dL_law_45 hl (by decide) rfl (fun ls hl => ?_)
      refine lv_aload_n hx hb dL_law_47 rfl (lv_at hl 2 rfl) ?_
      refine lv_iconst (v := nI 2) hx hb dL_law_48 (by decide) ?_
      refine lv_iload hx hb dL_law_49 (lv_at hl 1 rfl) ?_
      refine lv_imul hx hb dL_law_51 ?_
      refine lv_iconst (v := nI 1) hx hb dL_law_52 (by decide) ?_
      refine lv_iadd hx hb dL_law_53 ?_
      rw [pk_mul, nI_add]
      refine lwCell hL S9 hK hX hbl hLL (by omega) hC hS hl.1 (Nat.le_of_ble_eq_true rfl) dL_law_54 hf (fun w H locs hC hS => ?_)
      refine lv_istore (lv' := [(10, .int w), (9, .int v), (8, .int (nI k)), (0, .ref b), (1, .ref (a 0)), (2, .ref (a 20)), (3, .int (nI n.1)), (4, .int (nI n.2.1)), (5, .int (nI n.2.2)), (6, .int f), (7, .int x)]) hx hb dL_law_57 hl (by decide) rfl (fun ls hl => ?_)
      refine lv_iload hx hb dL_law_59 (lv_at hl 1 rfl) ?_
      refine lv_bipush (v := nI 14) hx hb dL_law_61 (by decide) ?_
      refine lwSi (As := [.int v, .int (nI 14)]) (rest := []) (v := nI (lw v 14)) (S' := S) hL S9 hK hC hS (q_low l G a hL.1 v 14 (by omega) S (by omega) _) (va_cwS 2 hts gL_law_L_low rfl rfl rfl (by decide +kernel) ⟨Nat.le_of_ble_eq_true rfl, Nat.le_of_ble_eq_true rfl⟩) rfl hl.1 rfl (Nat.le_of_ble_eq_true rfl) dL_law_63 hf (fun H locs hC hS => ?_)
      refine lv_istore (lv' := [(11, .int (nI (lw v 14))), (10, .int w), (9, .int v), (8, .int (nI k)), (0, .ref b), (1, .ref (a 0)), (2, .ref (a 20)), (3, .int (nI n.1)), (4, .int (nI n.2.1)), (5, .int (nI n.2.2)), (6, .int f), (7, .int x)]) hx hb dL_law_66 hl (by decide) rfl (fun ls hl => ?_)
      refine lt_68 hL S9 hK hf hk (fun n t f x S H locs ls ht hI h6 hx6 hC hS hl => ?_) ht hI h6 hx6 hC hS hl
      have hn1 := hI.1.2.1
      have hn3 := hI.1.2.2
      refine lv_aload_n hx hb dL_law_563 rfl (lv_at hl 2 rfl) ?_
      refine lv_iload_n hx hb dL_law_564 rfl (lv_at hl 4 rfl) ?_
      refine lv_iload hx hb dL_law_565 (lv_at hl 5 rfl) ?_
      refine lv_iload hx hb dL_law_567 (lv_at hl 7 rfl) ?_
      refine lwSz (As := [.ref (a 0), .int (nI n.1), .int (nI n.2.1), .int f]) (rest := []) (v := 1) (S' := S) hL S9 hK hC hS (q_areSums l G a hL.1 n.1 hn1 n.2.1 hn3.1 f S (AS_of (by omega) hI) _) (va_cwS 4 hts gL_law_L_areSums rfl rfl rfl (by decide +kernel) ⟨Nat.le_of_ble_eq_true rfl, Nat.le_of_ble_eq_true rfl⟩) rfl hl.1 rfl (Nat.le_of_ble_eq_true rfl) dL_law_569 hf (fun H locs _ hC hS => ?_)
      refine lv_if_ne (tgt := 577) hx hb dL_law_572 (by decide) (fun _ => ?_) (fun c9 => absurd c9 (by decide))
      refine lv_iinc (k := 0) (v := nI (k + 1)) (lv' := [(8, .int (nI (k + 1))), (0, .ref b), (1, .ref (a 0)), (2, .ref (a 20)), (3, .int (nI n.1)), (4, .int (nI n.2.1)), (5, .int (nI n.2.2)), (6, .int f), (7, .int x)]) hx hb dL_law_577 hl rfl (nI_inc _) (by decide) rfl (fun ls hl => ?_)
      refine lv_goto (tgt := 30) hx hb dL_law_580 (by decide) ?_
      exact ih (k + 1) (by omega) (by omega) n t f x S H locs ls ht hI h6 hx6 hC hS hl
set_option maxHeartbeats 8000000 in
set_option maxRecDepth 100000 in
theorem whole_start {p : Program} {e : Env} {s : State} {m : MethodId} {below : List Frame} {meth : Method} {c : Code} (l : Launch) (hflags : l.flags = flags0) {b L : Nat} {xs : Nat → Int32} (hL : L ≤ 260) (C0 : lw_At p s m meth c b L xs) : W p l e room_1 s m #[Value.ref b] below meth c s.heap [] 0 0 (lw_Z below #[Value.ref b] s) (entryFrame m ([Value.ref b] : List Value).toArray 15) := by
  obtain ⟨hx, hb, hr, hml, hown, hts0, hX, hbl, hlocks, hgv⟩ := id C0
  have hT : ∀ w ∈ tables_1, w.before #[Value.ref b] s = true := fun w h => hts0 w (List.mem_append_right _ h)
  have hts : ∀ w ∈ wsL_law, w.before #[Value.ref b] s = true := fun w h => hts0 w (wsL_law_in w h)
  have hI := iEnv_of hT
  obtain ⟨G, hK⟩ := wK_of hT hts
  have hw3 : ∀ w ∈ wsX30, w.before #[Value.ref b] s = true := fun w h => hts w (inlX3 w h)
  have hA : ∀ q : Nat, s.heap.size ≤ q → LF s.heap.size q := fun _ h => h
  have hS : va_S (LF s.heap.size) s.heap s.heap [] := va_S.rf
  have hP : va_P G.1 vwCl [] s.heap := fun k q h => by simp at h
  have hD : va_D (LF s.heap.size) [] := ⟨fun i j p q h => by simp at h, fun k q h => by simp at h⟩
  have hl := lv_entry ([.ref b]) (n := 15) (Nat.le_of_ble_eq_true rfl)
  rw [lg_entry_eq]
  generalize (lg_sl ([.ref b]) ++ List.replicate (15 - (lg_sl ([.ref b])).length) Slot.unset).toArray = ls at hl ⊢
  have hl : lv_has ls 15 [(0, .ref b)] := hl
  refine va_new (ci := 3) (fs := rw1 16 siN) (C := RX3) (T := TX3) (N := 16) hx hb hw3 (fun _ h => h) tyX3 tyX3_ok hown (hts (.classLink RL 9 RX3) (List.mem_of_getElem? (i := 0) (by decide +kernel))) (hts (.instantiable RX3 16) (List.mem_of_getElem? (i := 1) (by decide +kernel))) (hts (.initialized RX3) (List.mem_of_getElem? (i := 2) (by decide +kernel))) hK hP hD hS hA rfl (by decide +kernel) (Nat.le_of_ble_eq_true rfl) (Nat.le_of_ble_eq_true rfl) dL_law_0 (fun h0 H hP hD hS => ?_)
  have hP : va_P G.1 vwCl [(h0, .inr (3, rw1 16 siN))] H := hP
  have hD : va_D (LF s.heap.size) [(h0, .inr (3, rw1 16 siN))] := hD
  refine lv_dup hx hb dL_law_3 rfl ?_
  have z0 : s.heap.size ≤ h0 := hD.2 0 _ rfl
  have hF1 : ∀ q, va_A [(h0, .inr (3, rw1 16 siN))] H.size q → LF s.heap.size q := fun q h => h.elim (fun ⟨k9, e9, h9⟩ => hD.2 k9 (q, e9) h9) (fun h => Nat.le_trans hS.1 h)
  refine va_callv (va_runI (As := []) (rest := [.ref h0]) ⟨hx, hb, hml, hown, hts⟩ (c_X3_init l G h0 H.size) (cwI 0 hts gL_law_X3_init rfl rfl rfl (hts (.initialized RX3) (List.mem_of_getElem? (i := 2) (by decide +kernel))) (hts (.methodLink RL 57 yX3_init) (List.mem_of_getElem? (i := 4) (by decide +kernel))) (hts (.instanceMethod yX3_init) (List.mem_of_getElem? (i := 5) (by decide +kernel))) rfl (by decide +kernel) ⟨Nat.le_of_ble_eq_true rfl, Nat.le_of_ble_eq_true rfl⟩)
    ⟨fun a U g mk ⟨q0, q1, qP, qK, q2, q3, q4, q5, q6⟩ => ⟨q0, q1, qP, va_K.moved (u := U) (U := U.calling g mk a) (Vm.Alike.refl U.vm) qK, va_AO.moved (u := U) (U := U.calling g mk a) (Vm.Alike.refl U.vm) q2, va_AO.moved (u := U) (U := U.calling g mk a) (Vm.Alike.refl U.vm) q3, va_AO.moved (u := U) (U := U.calling g mk a) (Vm.Alike.refl U.vm) q4, va_Nw.same (u := U) (U := U.calling g mk a) (by decide +kernel) rfl q5, va_Nw.same (u := U) (U := U.calling g mk a) (by decide +kernel) rfl q6⟩,
      fun U hU hW => ⟨rfl, by rw [hU], by rw [hU]; exact hP, va_K.moved hW.alike hK, va_AO.moved hW.alike hI.1, va_AO.moved hW.alike hI.2.1, va_AO.moved hW.alike hI.2.2.1, va_Nw.warmM hW hI.2.2.2.1, va_Nw.warmM hW hI.2.2.2.2⟩⟩ rfl rfl hl.1 rfl (lv_room (Nat.le_of_ble_eq_true rfl)) dL_law_4 ⟨Nat.le_of_ble_eq_true rfl, Nat.le_of_ble_eq_true rfl⟩) hS (fun q _ h => hF1 q h) hF1 (fun a t H1 locs ht _ hw hB hz1 _ hS => ?_)
  obtain ⟨e0, ia, ha9⟩ := hw
  have zH := hS.1
  have hC : wC0 G a CS0 H1 := by rw [← ht]; exact hB
  have za : ∀ k, k < 20 → s.heap.size ≤ a k := fun k hk => by
    rcases Nat.eq_zero_or_pos k with e | e
    · rw [e, e0]; exact z0
    · exact Nat.le_trans (Nat.le_of_lt_succ (by have := ha9 k e hk; have := (hP 0 _ rfl).lt; omega)) (ha9 k e hk)
  refine W.widen (k := 20) (n := 155) (Nat.le_of_ble_eq_true rfl) (Nat.le_of_ble_eq_true rfl) ?_
  refine lv_astore_n (lv' := [(1, .ref h0), (0, .ref b)]) hx hb dL_law_7 rfl hl (by decide) rfl (fun ls hl => ?_)
  have hDC : va_D (LF s.heap.size) (wl 20 a (cE G.2 a CS0)) := (wl_D (sz := 0) ia).weaken (fun k q hq _ => by
    obtain ⟨h1, rfl⟩ := wl_at hq
    exact za k h1)
  refine lv_bipush (v := 10) hx hb dL_law_8 (by decide) ?_
  refine nwI (G := G) (N' := 10) hx hb (hts (.arrayClass .int) (List.mem_of_getElem? (i := 3) (by decide +kernel))) hK hC hDC hS hA (by decide) (by decide) (by decide) (Nat.le_of_ble_eq_true rfl) (Nat.le_of_ble_eq_true rfl) dL_law_10 (fun o H hP hD hS => ?_)
  have hlen : (wl 20 a (cE G.2 a CS0)).length = 20 := by simp [wl]
  have go : (wl 20 a (cE G.2 a CS0) ++ [(o, .inl (G.2 0, 10, .inl (fun _ => 0)))])[20]? = some (o, .inl (G.2 0, 10, .inl (fun _ => 0))) := by
    have := ap_get (W0 := wl 20 a (cE G.2 a CS0)) (x := (o, .inl (G.2 0, 10, .inl (fun _ => 0))))
    rw [hlen] at this
    exact this
  have noa : ∀ k, k < 20 → o ≠ a k := fun k hk e => by
    have g9 : (wl 20 a (cE G.2 a CS0) ++ [(o, .inl (G.2 0, 10, .inl (fun _ => 0)))])[k]? = some (a k, cE G.2 a CS0 k) := by
      rw [List.getElem?_append_left (by rw [hlen]; exact hk)]
      exact wl_get hk
    have := hD.1 20 k _ _ go g9 e
    omega
  have hC : wC G (va_up a 20 o) CS0 H := CW_grow (fun i => rfl) hP
  have up : ∀ j, j < 20 → va_up a 20 o j = a j := fun j hj => by
    unfold va_up
    rw [if_neg (by omega)]
  have up20 : va_up a 20 o 20 = o := by unfold va_up; rw [if_pos rfl]
  have hLA : LAp (va_up a 20 o) s.heap.size := by
    refine ⟨fun i j hi hj e => ?_, fun k hk => ?_⟩
    · rcases Nat.lt_or_ge i 20 with a1 | a1
      · rcases Nat.lt_or_ge j 20 with a2 | a2
        · rw [up i a1, up j a2] at e
          exact ia i j a1 a2 e
        · have e2 : j = 20 := by omega
          rw [up i a1, e2, up20] at e
          exact absurd e.symm (noa i a1)
      · have e1 : i = 20 := by omega
        rcases Nat.lt_or_ge j 20 with a2 | a2
        · rw [e1, up20, up j a2] at e
          exact absurd e (noa j a2)
        · omega
    · rcases Nat.lt_or_ge k 20 with a1 | a1
      · rw [up k a1]
        exact za k a1
      · have e1 : k = 20 := by omega
        rw [e1, up20]
        exact hD.2 20 _ go
  have eh : va_up a 20 o 0 = h0 := by rw [up 0 (by decide), e0]
  refine lv_astore_n (lv' := [(2, .ref o), (1, .ref h0), (0, .ref b)]) hx hb dL_law_12 rfl hl (by decide) rfl (fun ls hl => ?_)
  refine lv_iconst (v := 0) hx hb dL_law_13 rfl ?_
  refine lv_istore_n (lv' := [(3, .int 0), (2, .ref o), (1, .ref h0), (0, .ref b)]) hx hb dL_law_14 rfl hl (by decide) rfl (fun ls hl => ?_)
  refine lv_iconst (v := 0) hx hb dL_law_15 rfl ?_
  refine lv_istore (lv' := [(4, .int 0), (3, .int 0), (2, .ref o), (1, .ref h0), (0, .ref b)]) hx hb dL_law_16 hl (by decide) rfl (fun ls hl => ?_)
  refine lv_iconst (v := 0) hx hb dL_law_18 rfl ?_
  refine lv_istore (lv' := [(5, .int 0), (4, .int 0), (3, .int 0), (2, .ref o), (1, .ref h0), (0, .ref b)]) hx hb dL_law_19 hl (by decide) rfl (fun ls hl => ?_)
  refine lv_iconst (v := 0) hx hb dL_law_21 rfl ?_
  refine lv_istore (lv' := [(6, .int 0), (5, .int 0), (4, .int 0), (3, .int 0), (2, .ref o), (1, .ref h0), (0, .ref b)]) hx hb dL_law_22 hl (by decide) rfl (fun ls hl => ?_)
  refine lv_iconst (v := 1) hx hb dL_law_24 rfl ?_
  refine lv_istore (lv' := [(7, .int 1), (6, .int 0), (5, .int 0), (4, .int 0), (3, .int 0), (2, .ref o), (1, .ref h0), (0, .ref b)]) hx hb dL_law_25 hl (by decide) rfl (fun ls hl => ?_)
  refine lv_iconst (v := 0) hx hb dL_law_27 rfl ?_
  refine lv_istore (lv' := [(8, .int 0), (7, .int 1), (6, .int 0), (5, .int 0), (4, .int 0), (3, .int 0), (2, .ref o), (1, .ref h0), (0, .ref b)]) hx hb dL_law_28 hl (by decide) rfl (fun ls hl => ?_)
  refine W.widen (k := 40) (n := 300) (Nat.le_of_ble_eq_true rfl) (Nat.le_of_ble_eq_true rfl) ?_
  refine law_loop hL C0 hLA hK 91 0 (by omega) (by omega) (0, 0, 0) 0 0 1 CS0 H _ ls (Nat.le_refl 0) JI_0 rfl isB_1 hC hS ?_
  rw [eh, up20]
  exact lv_sub hl [0, 8, 7, 6, 5, 4, 3, 2, 1] rfl
