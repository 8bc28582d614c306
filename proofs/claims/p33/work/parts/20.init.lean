/-! ===== constructors of the class's things, over any world in front ===== -/
def upv (f : Nat → Value) (k : Nat) (v : Value) : Nat → Value := fun q => if q = k then v else f q
theorem rw1_upv {n : Nat} {f : Nat → Value} {k : Nat} {v : Value} : (rw1 n f).set k v = rw1 n (upv f k v) := rw1_set (by simp [upv]) (fun j _ h => by simp [upv, h])
theorem D_keys {A : Nat → Prop} {ws ws' : va_W} (h : ws.map (fun q => q.1) = ws'.map (fun q => q.1)) (hD : va_D A ws) : va_D A ws' := by
  have key : ∀ (i : Nat) (p : Nat × va_E), ws'[i]? = some p → ∃ p', ws[i]? = some p' ∧ p'.1 = p.1 := by
    intro i p hp
    have h1 : (ws.map (fun q => q.1))[i]? = some p.1 := by rw [h, List.getElem?_map, hp]; rfl
    rw [List.getElem?_map] at h1
    cases hw : ws[i]? with
    | none => rw [hw] at h1; cases h1
    | some p' => rw [hw] at h1; exact ⟨p', rfl, Option.some.inj h1⟩
  refine ⟨fun i j p q hp hq e => ?_, fun k q hq => ?_⟩
  · obtain ⟨p', h1, h2⟩ := key i p hp
    obtain ⟨q', h3, h4⟩ := key j q hq
    exact hD.1 i j p' q' h1 h3 (by rw [h2, h4, e])
  · obtain ⟨q', h3, h4⟩ := key k q hq
    have := hD.2 k q' h3
    rw [h4] at this
    exact this
theorem ap_get {W0 : va_W} {x : Nat × va_E} : (W0 ++ [x])[W0.length]? = some x := by simp
theorem ap_set {W0 : va_W} {x y : Nat × va_E} : (W0 ++ [x]).set W0.length y = W0 ++ [y] := by
  induction W0 with
  | nil => rfl
  | cons w W0 ih =>
    show w :: (W0 ++ [x]).set W0.length y = _
    rw [ih]
    rfl
def iPre (G : WG) (ws : va_W) (sz : Nat) : State → Prop := fun U => U.heap.size = sz ∧ va_P G.1 vwCl ws U.heap ∧ wK G U ∧ va_D (fun _ => True) ws
theorem iPre_bl {G : WG} {ws : va_W} {sz : Nat} {av : List Value} : FrameBlind (va_Pc av (iPre G ws sz)) := fun a U g mk ⟨h0, h1, h2, h3, h4⟩ =>
  ⟨h0, h1, h2, va_K.moved (u := U) (U := U.calling g mk a) (Vm.Alike.refl U.vm) h3, h4⟩
def iMv (l : Launch) (y : MethodName) (ws : List Cond) (rm : Room) (G : WG) (av : List Value) (W0 W1 : va_W) (sz : Nat) : Prop :=
  Met l y ws rm (va_Pc av (iPre G W0 sz)) (va_Qv (fun _ : Unit => True) (fun _ t => va_P G.1 vwCl W1 t.heap) (va_A W0 sz)) 0 0 (va_A W0 sz)
set_option maxHeartbeats 4000000 in
set_option maxRecDepth 100000 in
theorem c_X2_init (l : Launch) (G : WG) (W0 : va_W) (h0 : Nat) (f : Nat → Value) (x1 : Int32) (sz : Nat) : iMv l yX2_init wsX2_init ({ frames := 1, cells := 0, slots := 0, locals := 20 }) G [.ref h0, .int x1] (W0 ++ [(h0, .inr (2, rw1 6 f))]) (W0 ++ [(h0, .inr (2, rw1 6 (upv (upv f 3 (.int 0)) 0 (.int x1))))]) sz := by
  unfold iMv
  refine Met.ofW (cc := cX2_init) (maxL := 2) (ret := none) (by decide) rfl ?_
  intro p e s m args below meth c s₁ B hml hv
  obtain ⟨rfl, rfl, hP, hK, hD0⟩ := hv
  have hx := B.exec
  have hb := B.bytes
  have hr := B.returns
  have hts := atoms_spec (ws := wsX2_init) B.pre
  have hown : s.vm.findClass RX2 = some m.cls := findClass_of_methodNamed B.named
  have hlocks := B.notSynchronized
  have hin : meth.name = "<init>" := (name_of_methodNamed B.named B.method).1
  have hD := hD0.self (sz := s.heap.size)
  have hS : va_S (va_A (W0 ++ [(h0, .inr (2, rw1 6 f))]) s.heap.size) s.heap s.heap [] := va_S.rf
  have hw2 : ∀ w ∈ wsX20, w.before ([.ref h0, .int x1] : List Value).toArray s = true := fun w hw => hts w ((by decide +kernel : ∀ w ∈ wsX20, w ∈ wsX2_init) w hw)
  have hl := lv_entry ([.ref h0, .int x1]) (n := 2) (Nat.le_of_ble_eq_true rfl)
  rw [lg_entry_eq]
  generalize (lg_sl ([.ref h0, .int x1] : List Value) ++ List.replicate (2 - (lg_sl ([.ref h0, .int x1] : List Value)).length) Slot.unset).toArray = ls at hl ⊢
  have hl : lv_has ls 2 [(0, .ref h0), (1, .int x1)] := hl
  refine lv_aload_n hx hb dX2_init_0 rfl (lv_at hl 0 rfl) ?_
  refine W.objInit hx hb hown (hts (.methodLink RX2 3 objectInit) (by decide +kernel)) (hts (.instanceMethod objectInit) (by decide +kernel)) (hts (.code objectInit ⟨#[0xb1]⟩ 1 none) (by decide +kernel)) rfl (by rw [hml]; exact hl.1) rfl dX2_init_1 (Nat.le_of_ble_eq_true rfl) (Nat.le_of_ble_eq_true rfl) ?_
  refine W.eq (g2 := F0 m 4 ls []) rfl ?_
  refine lv_aload_n hx hb dX2_init_4 rfl (lv_at hl 0 rfl) ?_
  refine lv_iconst (v := 0) hx hb dX2_init_5 (by decide) ?_
  refine va_put (D := G.1) (ci := 2) (C := RX2) (T := TX2) (N := 6) (ty := .int) (fs := rw1 6 f) hx hb hw2 (fun _ h => h) tyX2 tyX2_ok nmX2 hown hK hP hD hS W0.length ap_get rfl 3 (by decide) (hts (.fieldLink RX2 9 "BackupPower$Load" "state" "I") (by decide +kernel)) (fun _ h9 => h9) rfl (by decide +kernel) rfl rfl (by rw [rw1_len]; decide) dX2_init_6 (fun H locs hP hD hS => ?_)
  rw [ap_set, rw1_upv] at hP hD
  refine lv_aload_n hx hb dX2_init_9 rfl (lv_at hl 0 rfl) ?_
  refine lv_iload_n hx hb dX2_init_10 rfl (lv_at hl 1 rfl) ?_
  refine va_putF (D := G.1) (ci := 2) (C := RX2) (T := TX2) (N := 6) (ty := .int) (fs := rw1 6 (upv f 3 (.int 0))) hx hb hw2 (fun _ h => h) tyX2 tyX2_ok nmX2 hown hK hP hD hS W0.length ap_get rfl 0 (by decide) (hts (.fieldLink RX2 15 "BackupPower$Load" "number" "I") (by decide +kernel)) (fun _ h9 => h9) rfl hin rfl (by decide +kernel) rfl rfl (by rw [rw1_len]; decide) dX2_init_11 (fun H locs hP hD hS => ?_)
  rw [ap_set, rw1_upv] at hP hD
  exact W.vret hx hb hr (fun t ht hW => ⟨⟨(), rfl, trivial, by show va_P _ _ _ _; rw [ht]; exact hP⟩, hS.F ht⟩) hS.2.2 dX2_init_14 hlocks
set_option maxHeartbeats 4000000 in
set_option maxRecDepth 100000 in
theorem c_X1_init (l : Launch) (G : WG) (W0 : va_W) (h0 : Nat) (f : Nat → Value) (sz : Nat) : iMv l yX1_init wsX1_init ({ frames := 1, cells := 0, slots := 0, locals := 20 }) G [.ref h0] (W0 ++ [(h0, .inr (1, rw1 15 f))]) (W0 ++ [(h0, .inr (1, rw1 15 (upv f 4 (.int 0))))]) sz := by
  unfold iMv
  refine Met.ofW (cc := cX1_init) (maxL := 1) (ret := none) (by decide) rfl ?_
  intro p e s m args below meth c s₁ B hml hv
  obtain ⟨rfl, rfl, hP, hK, hD0⟩ := hv
  have hx := B.exec
  have hb := B.bytes
  have hr := B.returns
  have hts := atoms_spec (ws := wsX1_init) B.pre
  have hown : s.vm.findClass RX1 = some m.cls := findClass_of_methodNamed B.named
  have hlocks := B.notSynchronized
  have hD := hD0.self (sz := s.heap.size)
  have hS : va_S (va_A (W0 ++ [(h0, .inr (1, rw1 15 f))]) s.heap.size) s.heap s.heap [] := va_S.rf
  have hw1 : ∀ w ∈ wsX10, w.before ([.ref h0] : List Value).toArray s = true := fun w hw => hts w ((by decide +kernel : ∀ w ∈ wsX10, w ∈ wsX1_init) w hw)
  have hl := lv_entry ([.ref h0]) (n := 1) (Nat.le_of_ble_eq_true rfl)
  rw [lg_entry_eq]
  generalize (lg_sl ([.ref h0] : List Value) ++ List.replicate (1 - (lg_sl ([.ref h0] : List Value)).length) Slot.unset).toArray = ls at hl ⊢
  have hl : lv_has ls 1 [(0, .ref h0)] := hl
  refine lv_aload_n hx hb dX1_init_0 rfl (lv_at hl 0 rfl) ?_
  refine W.objInit hx hb hown (hts (.methodLink RX1 3 objectInit) (by decide +kernel)) (hts (.instanceMethod objectInit) (by decide +kernel)) (hts (.code objectInit ⟨#[0xb1]⟩ 1 none) (by decide +kernel)) rfl (by rw [hml]; exact hl.1) rfl dX1_init_1 (Nat.le_of_ble_eq_true rfl) (Nat.le_of_ble_eq_true rfl) ?_
  refine W.eq (g2 := F0 m 4 ls []) rfl ?_
  refine lv_aload_n hx hb dX1_init_4 rfl (lv_at hl 0 rfl) ?_
  refine lv_iconst (v := 0) hx hb dX1_init_5 (by decide) ?_
  refine va_put (D := G.1) (ci := 1) (C := RX1) (T := TX1) (N := 15) (ty := .int) (fs := rw1 15 f) hx hb hw1 (fun _ h => h) tyX1 tyX1_ok nmX1 hown hK hP hD hS W0.length ap_get rfl 4 (by decide) (hts (.fieldLink RX1 9 "BackupPower$Generator" "state" "I") (by decide +kernel)) (fun _ h9 => h9) rfl (by decide +kernel) rfl rfl (by rw [rw1_len]; decide) dX1_init_6 (fun H locs hP hD hS => ?_)
  rw [ap_set, rw1_upv] at hP hD
  exact W.vret hx hb hr (fun t ht hW => ⟨⟨(), rfl, trivial, by show va_P _ _ _ _; rw [ht]; exact hP⟩, hS.F ht⟩) hS.2.2 dX1_init_9 hlocks
set_option maxHeartbeats 4000000 in
set_option maxRecDepth 100000 in
theorem c_X0_init (l : Launch) (G : WG) (W0 : va_W) (h0 : Nat) (sz : Nat) : iMv l yX0_init wsX0_init ({ frames := 1, cells := 0, slots := 0, locals := 20 }) G [.ref h0] W0 W0 sz := by
  unfold iMv
  refine Met.ofW (cc := cX0_init) (maxL := 1) (ret := none) (by decide) rfl ?_
  intro p e s m args below meth c s₁ B hml hv
  obtain ⟨rfl, rfl, hP, hK, hD0⟩ := hv
  have hx := B.exec
  have hb := B.bytes
  have hr := B.returns
  have hts := atoms_spec (ws := wsX0_init) B.pre
  have hown : s.vm.findClass RX0 = some m.cls := findClass_of_methodNamed B.named
  have hlocks := B.notSynchronized
  have hS : va_S (va_A W0 s.heap.size) s.heap s.heap [] := va_S.rf
  have hl := lv_entry ([.ref h0]) (n := 1) (Nat.le_of_ble_eq_true rfl)
  rw [lg_entry_eq]
  generalize (lg_sl ([.ref h0] : List Value) ++ List.replicate (1 - (lg_sl ([.ref h0] : List Value)).length) Slot.unset).toArray = ls at hl ⊢
  have hl : lv_has ls 1 [(0, .ref h0)] := hl
  refine lv_aload_n hx hb dX0_init_0 rfl (lv_at hl 0 rfl) ?_
  refine W.objInit hx hb hown (hts (.methodLink RX0 1 objectInit) (by decide +kernel)) (hts (.instanceMethod objectInit) (by decide +kernel)) (hts (.code objectInit ⟨#[0xb1]⟩ 1 none) (by decide +kernel)) rfl (by rw [hml]; exact hl.1) rfl dX0_init_1 (Nat.le_of_ble_eq_true rfl) (Nat.le_of_ble_eq_true rfl) ?_
  refine W.eq (g2 := F0 m 4 ls []) rfl ?_
  exact W.vret hx hb hr (fun t ht hW => ⟨⟨(), rfl, trivial, by show va_P _ _ _ _; rw [ht]; exact hP⟩, hS.F ht⟩) hS.2.2 dX0_init_4 hlocks
/-! new arrays of a class that is known already -/
section NW
variable {p : Program} {l : Launch} {e : Env} {R : Room} {s : State} {m : MethodId} {args : Array Value} {below : List Frame} {meth : Method} {c : Code} {H : Heap} {locs : List Loc} {cells slots : Nat} {Q : State → Prop}
variable {cc : ByteArray} {pc : Nat} {ls : Array Slot} {rest : List Value} {G : WG} {A : Nat → Prop} {H0 : Heap} {own : String} {index : Nat} {ws : va_W}
theorem nwq {C : String} (t0 : Nat) {cY : ClassId} (ht : (wT G.2)[t0]? = some (cY, .object C)) (hx : p.tables.exec = Jvm.exec) (hb : c.code = cc) (hown : s.vm.findClass own = some m.cls) (hclink : (Cond.classLink own index C).before args s = true) (hover : va_AO C s) (hK : wK G s) (hP : va_P G.1 vwCl ws H) (hD : va_D A ws) (hS : va_S A H0 H locs) (hA : ∀ q, H0.size ≤ q → A q)
    {n : Int32} {N' : Nat} (hn : ¬ n < 0) (hN : n.toNatClampNeg = N') (hbytes : N' * 4 ≤ 536870912) (hcells : cells + 1 ≤ R.cells) (hslots : slots + N' ≤ R.slots) (hdg : decode cc pc = .ok (.anewarray index, 3))
    (kk : ∀ (q : Nat) (H1 : Heap), va_P G.1 vwCl (ws ++ [(q, .inl (cY, N', .inr (.inr (.inr (.inr (fun _ => none))))))]) H1 → va_D A (ws ++ [(q, .inl (cY, N', .inr (.inr (.inr (.inr (fun _ => none))))))]) → va_S A H0 H1 locs →
      W p l e R s m args below meth c H1 locs (cells + 1) (slots + N') Q (F0 m (pc + 3) ls (.ref q :: rest))) : W p l e R s m args below meth c H locs cells slots Q (F0 m pc ls (.int n :: rest)) := by
  refine va_newq hx hb hown hclink hover hK hP hD hS hA hn hN hbytes hcells hslots hdg (fun q cA H1 hK1 hP1 hD1 hS1 => ?_)
  have h1 := (hK1.2 6 (cA, .object C) rfl).2
  have h2 := (hK.2 t0 _ ht).2
  obtain ⟨_, _, _, _, _, e1⟩ := h1
  obtain ⟨_, _, _, _, _, e2⟩ := h2
  have e3 : cA = cY := Option.some.inj (e1.symm.trans e2)
  subst e3
  exact kk q H1 hP1 hD1 hS1
theorem nwI (hx : p.tables.exec = Jvm.exec) (hb : c.code = cc) (harr : (Cond.arrayClass .int).before args s = true) (hK : wK G s) (hP : va_P G.1 vwCl ws H) (hD : va_D A ws) (hS : va_S A H0 H locs) (hA : ∀ q, H0.size ≤ q → A q)
    {n : Int32} {N' : Nat} (hn : ¬ n < 0) (hN : n.toNatClampNeg = N') (hbytes : N' * 4 ≤ 536870912) (hcells : cells + 1 ≤ R.cells) (hslots : slots + N' ≤ R.slots) (hdg : decode cc pc = .ok (.newarray .int, 2))
    (kk : ∀ (q : Nat) (H1 : Heap), va_P G.1 vwCl (ws ++ [(q, .inl (G.2 0, N', .inl (fun _ => 0)))]) H1 → va_D A (ws ++ [(q, .inl (G.2 0, N', .inl (fun _ => 0)))]) → va_S A H0 H1 locs →
      W p l e R s m args below meth c H1 locs (cells + 1) (slots + N') Q (F0 m (pc + 2) ls (.ref q :: rest))) : W p l e R s m args below meth c H locs cells slots Q (F0 m pc ls (.int n :: rest)) := by
  refine va_newa (atype := .int) (ty := .int) (a0 := (N', .inl (fun _ => 0))) hx hb harr rfl hK hP hD hS hA (fun _ => rfl) hn hN hbytes hcells hslots hdg (fun q cA H1 hK1 hP1 hD1 hS1 => ?_)
  have h1 : s.vm.findClass ("[" ++ FieldType.int.toString) = some cA := (hK1.2 6 (cA, .int) rfl).2
  have h2 : s.vm.findClass ("[" ++ FieldType.int.toString) = some (G.2 0) := (hK.2 0 (G.2 0, .int) rfl).2
  have e3 : cA = G.2 0 := Option.some.inj (h1.symm.trans h2)
  subst e3
  exact kk q H1 hP1 hD1 hS1
end NW
