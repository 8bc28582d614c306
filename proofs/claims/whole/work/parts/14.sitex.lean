def f_X3_findLoad_b12 (x1 : Int32) (S12 : CS) : (Nat × CS) ⊕ (Nat × CS) := (Sum.inr (2, S12))
def f_X3_findLoad (x1 : Int32) (S : CS) : (Nat × CS) ⊕ (Nat × CS) := (if x1 < 0 then (f_X3_findLoad_b12 x1 S) else (if x1 < (S.1 3) then (Sum.inl (x1.toNatClampNeg, S)) else (f_X3_findLoad_b12 x1 S)))
set_option maxHeartbeats 4000000 in
set_option maxRecDepth 100000 in
theorem c_X3_findLoad (l : Launch) (G : WG) (a : Nat → Nat) (ha : wInj 20 a) (hst : l.stackTraces = false) (x1 : Int32) (S : CS) (hc3 : ∃ N, N ≤ 10 ∧ S.1 3 = nI N) (sz : Nat) : gxMr l yX3_findLoad wsX3_findLoad ({ frames := 6, cells := 1, slots := 6, locals := 90 }) 1 6 G 20 a (CW G.2 a) (fun j => a (4 + j)) 10 [.ref (a 0), .int x1] S sz (f_X3_findLoad x1 S) := by
  unfold gxMr
  refine vx_ofW (cc := cX3_findLoad) (maxL := 2) (ret := (some (.object "BackupPower$Load"))) (by decide) rfl ?_
  intro p e s m args below meth c s₁ B hml htab hv
  obtain ⟨rfl, rfl, hP, hK, hexc⟩ := hv
  have hx := B.exec
  have hb := B.bytes
  have hr := B.returns
  have hts := atoms_spec (ws := wsX3_findLoad) B.pre
  have hown : s.vm.findClass RX3 = some m.cls := findClass_of_methodNamed B.named
  have hlocks := B.notSynchronized
  have hS : va_S (wA 20 a s.heap.size) s.heap s.heap [] := va_S.rf
  have hw3 : ∀ w ∈ wsX30, w.before ([.ref (a 0), .int x1] : List Value).toArray s = true := fun w hw => hts w ((by decide +kernel : ∀ w ∈ wsX30, w ∈ wsX3_findLoad) w hw)
  have hl := lv_entry ([.ref (a 0), .int x1]) (n := 2) (Nat.le_of_ble_eq_true rfl)
  rw [lg_entry_eq]
  generalize (lg_sl ([.ref (a 0), .int x1] : List Value) ++ List.replicate (2 - (lg_sl ([.ref (a 0), .int x1] : List Value)).length) Slot.unset).toArray = ls at hl ⊢
  have hl : lv_has ls 2 [(0, .ref (a 0)), (1, .int x1)] := hl
  generalize hF : f_X3_findLoad x1 S = F
  have h : f_X3_findLoad x1 S = F := hF
  clear hF
  show W p l e ({ frames := 6, cells := 1, slots := 6, locals := 90 } : Room) s m ([.ref (a 0), .int x1] : List Value).toArray below meth c s.heap [] 0 0 (gxQr below 1 6 G (CW G.2 a) 20 a (fun j => a (4 + j)) 10 F ([.ref (a 0), .int x1] : List Value).toArray s) (F0 m 0 ls [])
  have J12 : ∀ (S12 : CS), f_X3_findLoad_b12 x1 S12 = F → ∀ (H : Heap) (locs : List Loc) (ls : Array Slot), wC G a S12 H → va_S (wA 20 a s.heap.size) s.heap H locs → lv_has ls 2 [] → W p l e ({ frames := 6, cells := 1, slots := 6, locals := 90 } : Room) s m ([.ref (a 0), .int x1] : List Value).toArray below meth c H locs 0 0 (gxQr below 1 6 G (CW G.2 a) 20 a (fun j => a (4 + j)) 10 F ([.ref (a 0), .int x1] : List Value).toArray s) (F0 m 12 ls []) := by
    intro S12 h H locs ls hP hS hl
    rewrite [f_X3_findLoad_b12] at h
    exact gxT (wf := CW G.2 a) (N := 20) (ad := a) (u := 2) (S := S12) hx hb hst hown hlocks htab hexc hP hS (hl.1.trans hml.symm) (ik := 200) (is := 202) (ic := 204) (text := "there is no such load") (by decide) (hts (.classLink RX3 200 "java/lang/IndexOutOfBoundsException") (by decide +kernel)) (hts (.initialized "java/lang/IndexOutOfBoundsException") (by decide +kernel)) (fun w hw => hts w ((by decide +kernel : ∀ w ∈ (vx_atS RX3 204 (exN 2) exS).filter goodWord, w ∈ wsX3_findLoad) w hw)) (by decide +kernel) (by decide +kernel) (by decide +kernel) dX3_findLoad_12 dX3_findLoad_15 dX3_findLoad_16 dX3_findLoad_18 dX3_findLoad_21 (by decide) h
  rewrite [f_X3_findLoad] at h
  refine lv_iload_n hx hb dX3_findLoad_0 rfl (lv_at hl 1 rfl) ?_
  refine lv_if_lt (tgt := 12) hx hb dX3_findLoad_1 (by decide) (fun c1 => ?_) (fun c1 => ?_)
  · rewrite [if_pos c1] at h
    exact J12 S h _ _ _ hP hS (lv_sub hl [] rfl)
  · rewrite [if_neg c1] at h
    refine lv_iload_n hx hb dX3_findLoad_4 rfl (lv_at hl 1 rfl) ?_
    refine lv_aload_n hx hb dX3_findLoad_5 rfl (lv_at hl 0 rfl) ?_
    refine cgM hx hb hw3 hown hK hP 3 (by decide) (v := .int (S.1 3)) rfl (hts (.fieldLink RX3 57 "BackupPower" "loadCount" "I") (by decide +kernel)) dX3_findLoad_6 ?_
    refine lv_icmp_lt (tgt := 22) hx hb dX3_findLoad_9 (by decide) (fun c9 => ?_) (fun c9 => ?_)
    · rewrite [if_pos c9] at h
      refine lv_aload_n hx hb dX3_findLoad_22 rfl (lv_at hl 0 rfl) ?_
      refine cgM hx hb hw3 hown hK hP 0 (by decide) (v := .ref (a 1)) rfl (hts (.fieldLink RX3 11 "BackupPower" "loads" "[LBackupPower$Load;") (by decide +kernel)) dX3_findLoad_23 ?_
      refine lv_iload_n hx hb dX3_findLoad_26 rfl (lv_at hl 1 rfl) ?_
      have hix27 : vp_in x1 10 := (ix_of (by decide) hc3 c1 c9)
      have hjx27 : x1.toNatClampNeg < 10 := vp_lt hix27
      refine crdLI hx hb hK hP hix27 dX3_findLoad_27 ?_
      refine W.widen (k := 1) (n := 6) (Nat.le_of_ble_eq_true rfl) (Nat.le_of_ble_eq_true rfl) ?_
      exact gxRr (wf := CW G.2 a) (S := S) (j := x1.toNatClampNeg) hx hb hr hlocks (by omega) hP hS h dX3_findLoad_28
    · rewrite [if_neg c9] at h
      exact J12 S h _ _ _ hP hS (lv_sub hl [] rfl)

def f_X3_findBattery_b12 (x1 : Int32) (S12 : CS) : (Nat × CS) ⊕ (Nat × CS) := (Sum.inr (2, S12))
def f_X3_findBattery (x1 : Int32) (S : CS) : (Nat × CS) ⊕ (Nat × CS) := (if x1 < 0 then (f_X3_findBattery_b12 x1 S) else (if x1 < (S.1 4) then (Sum.inl (x1.toNatClampNeg, S)) else (f_X3_findBattery_b12 x1 S)))
set_option maxHeartbeats 4000000 in
set_option maxRecDepth 100000 in
theorem c_X3_findBattery (l : Launch) (G : WG) (a : Nat → Nat) (ha : wInj 20 a) (hst : l.stackTraces = false) (x1 : Int32) (S : CS) (hc3 : ∃ N, N ≤ 3 ∧ S.1 4 = nI N) (sz : Nat) : gxMr l yX3_findBattery wsX3_findBattery ({ frames := 6, cells := 1, slots := 6, locals := 90 }) 1 6 G 20 a (CW G.2 a) (fun j => a (14 + j)) 3 [.ref (a 0), .int x1] S sz (f_X3_findBattery x1 S) := by
  unfold gxMr
  refine vx_ofW (cc := cX3_findBattery) (maxL := 2) (ret := (some (.object "BackupPower$Battery"))) (by decide) rfl ?_
  intro p e s m args below meth c s₁ B hml htab hv
  obtain ⟨rfl, rfl, hP, hK, hexc⟩ := hv
  have hx := B.exec
  have hb := B.bytes
  have hr := B.returns
  have hts := atoms_spec (ws := wsX3_findBattery) B.pre
  have hown : s.vm.findClass RX3 = some m.cls := findClass_of_methodNamed B.named
  have hlocks := B.notSynchronized
  have hS : va_S (wA 20 a s.heap.size) s.heap s.heap [] := va_S.rf
  have hw3 : ∀ w ∈ wsX30, w.before ([.ref (a 0), .int x1] : List Value).toArray s = true := fun w hw => hts w ((by decide +kernel : ∀ w ∈ wsX30, w ∈ wsX3_findBattery) w hw)
  have hl := lv_entry ([.ref (a 0), .int x1]) (n := 2) (Nat.le_of_ble_eq_true rfl)
  rw [lg_entry_eq]
  generalize (lg_sl ([.ref (a 0), .int x1] : List Value) ++ List.replicate (2 - (lg_sl ([.ref (a 0), .int x1] : List Value)).length) Slot.unset).toArray = ls at hl ⊢
  have hl : lv_has ls 2 [(0, .ref (a 0)), (1, .int x1)] := hl
  generalize hF : f_X3_findBattery x1 S = F
  have h : f_X3_findBattery x1 S = F := hF
  clear hF
  show W p l e ({ frames := 6, cells := 1, slots := 6, locals := 90 } : Room) s m ([.ref (a 0), .int x1] : List Value).toArray below meth c s.heap [] 0 0 (gxQr below 1 6 G (CW G.2 a) 20 a (fun j => a (14 + j)) 3 F ([.ref (a 0), .int x1] : List Value).toArray s) (F0 m 0 ls [])
  have J12 : ∀ (S12 : CS), f_X3_findBattery_b12 x1 S12 = F → ∀ (H : Heap) (locs : List Loc) (ls : Array Slot), wC G a S12 H → va_S (wA 20 a s.heap.size) s.heap H locs → lv_has ls 2 [] → W p l e ({ frames := 6, cells := 1, slots := 6, locals := 90 } : Room) s m ([.ref (a 0), .int x1] : List Value).toArray below meth c H locs 0 0 (gxQr below 1 6 G (CW G.2 a) 20 a (fun j => a (14 + j)) 3 F ([.ref (a 0), .int x1] : List Value).toArray s) (F0 m 12 ls []) := by
    intro S12 h H locs ls hP hS hl
    rewrite [f_X3_findBattery_b12] at h
    exact gxT (wf := CW G.2 a) (N := 20) (ad := a) (u := 2) (S := S12) hx hb hst hown hlocks htab hexc hP hS (hl.1.trans hml.symm) (ik := 200) (is := 205) (ic := 204) (text := "there is no such battery") (by decide) (hts (.classLink RX3 200 "java/lang/IndexOutOfBoundsException") (by decide +kernel)) (hts (.initialized "java/lang/IndexOutOfBoundsException") (by decide +kernel)) (fun w hw => hts w ((by decide +kernel : ∀ w ∈ (vx_atS RX3 204 (exN 2) exS).filter goodWord, w ∈ wsX3_findBattery) w hw)) (by decide +kernel) (by decide +kernel) (by decide +kernel) dX3_findBattery_12 dX3_findBattery_15 dX3_findBattery_16 dX3_findBattery_18 dX3_findBattery_21 (by decide) h
  rewrite [f_X3_findBattery] at h
  refine lv_iload_n hx hb dX3_findBattery_0 rfl (lv_at hl 1 rfl) ?_
  refine lv_if_lt (tgt := 12) hx hb dX3_findBattery_1 (by decide) (fun c1 => ?_) (fun c1 => ?_)
  · rewrite [if_pos c1] at h
    exact J12 S h _ _ _ hP hS (lv_sub hl [] rfl)
  · rewrite [if_neg c1] at h
    refine lv_iload_n hx hb dX3_findBattery_4 rfl (lv_at hl 1 rfl) ?_
    refine lv_aload_n hx hb dX3_findBattery_5 rfl (lv_at hl 0 rfl) ?_
    refine cgM hx hb hw3 hown hK hP 4 (by decide) (v := .int (S.1 4)) rfl (hts (.fieldLink RX3 71 "BackupPower" "batteryCount" "I") (by decide +kernel)) dX3_findBattery_6 ?_
    refine lv_icmp_lt (tgt := 22) hx hb dX3_findBattery_9 (by decide) (fun c9 => ?_) (fun c9 => ?_)
    · rewrite [if_pos c9] at h
      refine lv_aload_n hx hb dX3_findBattery_22 rfl (lv_at hl 0 rfl) ?_
      refine cgM hx hb hw3 hown hK hP 1 (by decide) (v := .ref (a 2)) rfl (hts (.fieldLink RX3 17 "BackupPower" "batteries" "[LBackupPower$Battery;") (by decide +kernel)) dX3_findBattery_23 ?_
      refine lv_iload_n hx hb dX3_findBattery_26 rfl (lv_at hl 1 rfl) ?_
      have hix27 : vp_in x1 3 := (ix_of (by decide) hc3 c1 c9)
      have hjx27 : x1.toNatClampNeg < 3 := vp_lt hix27
      refine crdBI hx hb hK hP hix27 dX3_findBattery_27 ?_
      refine W.widen (k := 1) (n := 6) (Nat.le_of_ble_eq_true rfl) (Nat.le_of_ble_eq_true rfl) ?_
      exact gxRr (wf := CW G.2 a) (S := S) (j := x1.toNatClampNeg) hx hb hr hlocks (by omega) hP hS h dX3_findBattery_28
    · rewrite [if_neg c9] at h
      exact J12 S h _ _ _ hP hS (lv_sub hl [] rfl)

def f_X3_findGenerator_b12 (x1 : Int32) (S12 : CS) : (Nat × CS) ⊕ (Nat × CS) := (Sum.inr (2, S12))
def f_X3_findGenerator (x1 : Int32) (S : CS) : (Nat × CS) ⊕ (Nat × CS) := (if x1 < 0 then (f_X3_findGenerator_b12 x1 S) else (if x1 < (S.1 5) then (Sum.inl (x1.toNatClampNeg, S)) else (f_X3_findGenerator_b12 x1 S)))
set_option maxHeartbeats 4000000 in
set_option maxRecDepth 100000 in
theorem c_X3_findGenerator (l : Launch) (G : WG) (a : Nat → Nat) (ha : wInj 20 a) (hst : l.stackTraces = false) (x1 : Int32) (S : CS) (hc3 : ∃ N, N ≤ 3 ∧ S.1 5 = nI N) (sz : Nat) : gxMr l yX3_findGenerator wsX3_findGenerator ({ frames := 6, cells := 1, slots := 6, locals := 90 }) 1 6 G 20 a (CW G.2 a) (fun j => a (17 + j)) 3 [.ref (a 0), .int x1] S sz (f_X3_findGenerator x1 S) := by
  unfold gxMr
  refine vx_ofW (cc := cX3_findGenerator) (maxL := 2) (ret := (some (.object "BackupPower$Generator"))) (by decide) rfl ?_
  intro p e s m args below meth c s₁ B hml htab hv
  obtain ⟨rfl, rfl, hP, hK, hexc⟩ := hv
  have hx := B.exec
  have hb := B.bytes
  have hr := B.returns
  have hts := atoms_spec (ws := wsX3_findGenerator) B.pre
  have hown : s.vm.findClass RX3 = some m.cls := findClass_of_methodNamed B.named
  have hlocks := B.notSynchronized
  have hS : va_S (wA 20 a s.heap.size) s.heap s.heap [] := va_S.rf
  have hw3 : ∀ w ∈ wsX30, w.before ([.ref (a 0), .int x1] : List Value).toArray s = true := fun w hw => hts w ((by decide +kernel : ∀ w ∈ wsX30, w ∈ wsX3_findGenerator) w hw)
  have hl := lv_entry ([.ref (a 0), .int x1]) (n := 2) (Nat.le_of_ble_eq_true rfl)
  rw [lg_entry_eq]
  generalize (lg_sl ([.ref (a 0), .int x1] : List Value) ++ List.replicate (2 - (lg_sl ([.ref (a 0), .int x1] : List Value)).length) Slot.unset).toArray = ls at hl ⊢
  have hl : lv_has ls 2 [(0, .ref (a 0)), (1, .int x1)] := hl
  generalize hF : f_X3_findGenerator x1 S = F
  have h : f_X3_findGenerator x1 S = F := hF
  clear hF
  show W p l e ({ frames := 6, cells := 1, slots := 6, locals := 90 } : Room) s m ([.ref (a 0), .int x1] : List Value).toArray below meth c s.heap [] 0 0 (gxQr below 1 6 G (CW G.2 a) 20 a (fun j => a (17 + j)) 3 F ([.ref (a 0), .int x1] : List Value).toArray s) (F0 m 0 ls [])
  have J12 : ∀ (S12 : CS), f_X3_findGenerator_b12 x1 S12 = F → ∀ (H : Heap) (locs : List Loc) (ls : Array Slot), wC G a S12 H → va_S (wA 20 a s.heap.size) s.heap H locs → lv_has ls 2 [] → W p l e ({ frames := 6, cells := 1, slots := 6, locals := 90 } : Room) s m ([.ref (a 0), .int x1] : List Value).toArray below meth c H locs 0 0 (gxQr below 1 6 G (CW G.2 a) 20 a (fun j => a (17 + j)) 3 F ([.ref (a 0), .int x1] : List Value).toArray s) (F0 m 12 ls []) := by
    intro S12 h H locs ls hP hS hl
    rewrite [f_X3_findGenerator_b12] at h
    exact gxT (wf := CW G.2 a) (N := 20) (ad := a) (u := 2) (S := S12) hx hb hst hown hlocks htab hexc hP hS (hl.1.trans hml.symm) (ik := 200) (is := 207) (ic := 204) (text := "there is no such generator") (by decide) (hts (.classLink RX3 200 "java/lang/IndexOutOfBoundsException") (by decide +kernel)) (hts (.initialized "java/lang/IndexOutOfBoundsException") (by decide +kernel)) (fun w hw => hts w ((by decide +kernel : ∀ w ∈ (vx_atS RX3 204 (exN 2) exS).filter goodWord, w ∈ wsX3_findGenerator) w hw)) (by decide +kernel) (by decide +kernel) (by decide +kernel) dX3_findGenerator_12 dX3_findGenerator_15 dX3_findGenerator_16 dX3_findGenerator_18 dX3_findGenerator_21 (by decide) h
  rewrite [f_X3_findGenerator] at h
  refine lv_iload_n hx hb dX3_findGenerator_0 rfl (lv_at hl 1 rfl) ?_
  refine lv_if_lt (tgt := 12) hx hb dX3_findGenerator_1 (by decide) (fun c1 => ?_) (fun c1 => ?_)
  · rewrite [if_pos c1] at h
    exact J12 S h _ _ _ hP hS (lv_sub hl [] rfl)
  · rewrite [if_neg c1] at h
    refine lv_iload_n hx hb dX3_findGenerator_4 rfl (lv_at hl 1 rfl) ?_
    refine lv_aload_n hx hb dX3_findGenerator_5 rfl (lv_at hl 0 rfl) ?_
    refine cgM hx hb hw3 hown hK hP 5 (by decide) (v := .int (S.1 5)) rfl (hts (.fieldLink RX3 79 "BackupPower" "generatorCount" "I") (by decide +kernel)) dX3_findGenerator_6 ?_
    refine lv_icmp_lt (tgt := 22) hx hb dX3_findGenerator_9 (by decide) (fun c9 => ?_) (fun c9 => ?_)
    · rewrite [if_pos c9] at h
      refine lv_aload_n hx hb dX3_findGenerator_22 rfl (lv_at hl 0 rfl) ?_
      refine cgM hx hb hw3 hown hK hP 2 (by decide) (v := .ref (a 3)) rfl (hts (.fieldLink RX3 23 "BackupPower" "generators" "[LBackupPower$Generator;") (by decide +kernel)) dX3_findGenerator_23 ?_
      refine lv_iload_n hx hb dX3_findGenerator_26 rfl (lv_at hl 1 rfl) ?_
      have hix27 : vp_in x1 3 := (ix_of (by decide) hc3 c1 c9)
      have hjx27 : x1.toNatClampNeg < 3 := vp_lt hix27
      refine crdGI hx hb hK hP hix27 dX3_findGenerator_27 ?_
      refine W.widen (k := 1) (n := 6) (Nat.le_of_ble_eq_true rfl) (Nat.le_of_ble_eq_true rfl) ?_
      exact gxRr (wf := CW G.2 a) (S := S) (j := x1.toNatClampNeg) hx hb hr hlocks (by omega) hP hS h dX3_findGenerator_28
    · rewrite [if_neg c9] at h
      exact J12 S h _ _ _ hP hS (lv_sub hl [] rfl)

def f_X3_findInOrder_b47 (x1 : Int32) (x2 : Int32) (K12 : Nat → CS → (Nat × CS) ⊕ (Nat × CS)) (k12 : Nat) (S47 : CS) : (Nat × CS) ⊕ (Nat × CS) := (K12 (k12 + 1) S47)
def f_X3_findInOrder_c37 (x1 : Int32) (x2 : Int32) (K12 : Nat → CS → (Nat × CS) ⊕ (Nat × CS)) (k12 : Nat) (p37 : Int32 × CS) : (Nat × CS) ⊕ (Nat × CS) := (if p37.1 = x2 then (Sum.inl (k12, p37.2)) else (f_X3_findInOrder_b47 x1 x2 K12 k12 p37.2))
def f_X3_findInOrder_h12 (x1 : Int32) (x2 : Int32) : Nat → Nat → CS → (Nat × CS) ⊕ (Nat × CS)
  | 0, _, S12 => Sum.inr (9, S12)
  | q + 1, k12, S12 => (if 10 ≤ k12 then (Sum.inr (2, S12)) else (if (S12.2.1 k12 3) = x1 then (f_X3_findInOrder_c37 x1 x2 (f_X3_findInOrder_h12 x1 x2 q) k12 (f_X3_countAheadOf k12 S12)) else (f_X3_findInOrder_b47 x1 x2 (f_X3_findInOrder_h12 x1 x2 q) k12 S12)))
def f_X3_findInOrder (x1 : Int32) (x2 : Int32) (S : CS) : (Nat × CS) ⊕ (Nat × CS) := (f_X3_findInOrder_h12 x1 x2 (10 + 1) 0 S)
set_option maxHeartbeats 4000000 in
set_option maxRecDepth 100000 in
theorem c_X3_findInOrder (l : Launch) (G : WG) (a : Nat → Nat) (ha : wInj 20 a) (hst : l.stackTraces = false) (x1 : Int32) (x2 : Int32) (S : CS) (sz : Nat) : gxMr l yX3_findInOrder wsX3_findInOrder ({ frames := 6, cells := 1, slots := 6, locals := 90 }) 1 6 G 20 a (CW G.2 a) (fun j => a (4 + j)) 10 [.ref (a 0), .int x1, .int x2] S sz (f_X3_findInOrder x1 x2 S) := by
  unfold gxMr
  refine vx_ofW (cc := cX3_findInOrder) (maxL := 7) (ret := (some (.object "BackupPower$Load"))) (by decide) rfl ?_
  intro p e s m args below meth c s₁ B hml htab hv
  obtain ⟨rfl, rfl, hP, hK, hexc⟩ := hv
  have hx := B.exec
  have hb := B.bytes
  have hr := B.returns
  have hts := atoms_spec (ws := wsX3_findInOrder) B.pre
  have hown : s.vm.findClass RX3 = some m.cls := findClass_of_methodNamed B.named
  have hlocks := B.notSynchronized
  have hS : va_S (wA 20 a s.heap.size) s.heap s.heap [] := va_S.rf
  have hw2 : ∀ w ∈ wsX20, w.before ([.ref (a 0), .int x1, .int x2] : List Value).toArray s = true := fun w hw => hts w ((by decide +kernel : ∀ w ∈ wsX20, w ∈ wsX3_findInOrder) w hw)
  have hw3 : ∀ w ∈ wsX30, w.before ([.ref (a 0), .int x1, .int x2] : List Value).toArray s = true := fun w hw => hts w ((by decide +kernel : ∀ w ∈ wsX30, w ∈ wsX3_findInOrder) w hw)
  have hl := lv_entry ([.ref (a 0), .int x1, .int x2]) (n := 7) (Nat.le_of_ble_eq_true rfl)
  rw [lg_entry_eq]
  generalize (lg_sl ([.ref (a 0), .int x1, .int x2] : List Value) ++ List.replicate (7 - (lg_sl ([.ref (a 0), .int x1, .int x2] : List Value)).length) Slot.unset).toArray = ls at hl ⊢
  have hl : lv_has ls 7 [(0, .ref (a 0)), (1, .int x1), (2, .int x2)] := hl
  generalize hF : f_X3_findInOrder x1 x2 S = F
  have h : f_X3_findInOrder x1 x2 S = F := hF
  clear hF
  show W p l e ({ frames := 6, cells := 1, slots := 6, locals := 90 } : Room) s m ([.ref (a 0), .int x1, .int x2] : List Value).toArray below meth c s.heap [] 0 0 (gxQr below 1 6 G (CW G.2 a) 20 a (fun j => a (4 + j)) 10 F ([.ref (a 0), .int x1, .int x2] : List Value).toArray s) (F0 m 0 ls [])
  have L12 : ∀ (q12 : Nat) (k12 : Nat) (S12 : CS), k12 ≤ 10 → 10 < k12 + q12 → f_X3_findInOrder_h12 x1 x2 q12 k12 S12 = F → ∀ (H : Heap) (locs : List Loc) (ls : Array Slot), wC G a S12 H → va_S (wA 20 a s.heap.size) s.heap H locs → lv_has ls 7 [(0, .ref (a 0)), (1, .int x1), (2, .int x2), (3, .ref (a 1)), (4, .int (nI 10)), (5, .int (nI k12))] → W p l e ({ frames := 6, cells := 1, slots := 6, locals := 90 } : Room) s m ([.ref (a 0), .int x1, .int x2] : List Value).toArray below meth c H locs 0 0 (gxQr below 1 6 G (CW G.2 a) 20 a (fun j => a (4 + j)) 10 F ([.ref (a 0), .int x1, .int x2] : List Value).toArray s) (F0 m 12 ls []) := by
    intro q12
    induction q12 with
    | zero => intro k12 S12 hk12 hq12 h H locs ls hP hS hl; omega
    | succ q12 ih12 =>
      intro k12 S12 hk12 hq12 h H locs ls hP hS hl
      have J47 : ∀ (S47 : CS), (k12 < 10) → f_X3_findInOrder_b47 x1 x2 (f_X3_findInOrder_h12 x1 x2 q12) k12 S47 = F → ∀ (H : Heap) (locs : List Loc) (ls : Array Slot), wC G a S47 H → va_S (wA 20 a s.heap.size) s.heap H locs → lv_has ls 7 [(0, .ref (a 0)), (1, .int x1), (2, .int x2), (3, .ref (a 1)), (4, .int (nI 10)), (5, .int (nI k12))] → W p l e ({ frames := 6, cells := 1, slots := 6, locals := 90 } : Room) s m ([.ref (a 0), .int x1, .int x2] : List Value).toArray below meth c H locs 0 0 (gxQr below 1 6 G (CW G.2 a) 20 a (fun j => a (4 + j)) 10 F ([.ref (a 0), .int x1, .int x2] : List Value).toArray s) (F0 m 47 ls []) := by
        intro S47 hkb12 h H locs ls hP hS hl
        rewrite [f_X3_findInOrder_b47] at h
        refine lv_iinc (k := 5) (v := nI (k12 + 1)) (lv' := [(5, .int (nI (k12 + 1))), (0, .ref (a 0)), (1, .int x1), (2, .int x2), (3, .ref (a 1)), (4, .int (nI 10))]) hx hb dX3_findInOrder_47 hl rfl (nI_inc _) (by decide) rfl (fun ls hl => ?_)
        refine lv_goto (tgt := 12) hx hb dX3_findInOrder_50 (by decide) ?_
        exact ih12 (k12 + 1) S47 (by omega) (by omega) h _ _ _ hP hS (lv_sub hl [1, 2, 3, 4, 5, 0] rfl)
      rewrite [f_X3_findInOrder_h12] at h
      refine lv_iload hx hb dX3_findInOrder_12 (lv_at hl 5 rfl) ?_
      refine lv_iload hx hb dX3_findInOrder_14 (lv_at hl 4 rfl) ?_
      refine lv_icmp_ge (tgt := 53) hx hb dX3_findInOrder_16 (by decide) (fun c16 => ?_) (fun c16 => ?_)
      · have c16 : 10 ≤ k12 := (nI_leI (a := 10) (b := k12) (by omega) (by omega)).mp c16
        rewrite [if_pos c16] at h
        exact gxT (wf := CW G.2 a) (N := 20) (ad := a) (u := 2) (S := S12) hx hb hst hown hlocks htab hexc hP hS (hl.1.trans hml.symm) (ik := 200) (is := 213) (ic := 204) (text := "there is no such place") (by decide) (hts (.classLink RX3 200 "java/lang/IndexOutOfBoundsException") (by decide +kernel)) (hts (.initialized "java/lang/IndexOutOfBoundsException") (by decide +kernel)) (fun w hw => hts w ((by decide +kernel : ∀ w ∈ (vx_atS RX3 204 (exN 2) exS).filter goodWord, w ∈ wsX3_findInOrder) w hw)) (by decide +kernel) (by decide +kernel) (by decide +kernel) dX3_findInOrder_53 dX3_findInOrder_56 dX3_findInOrder_57 dX3_findInOrder_59 dX3_findInOrder_62 (by decide) h
      · have c16 : ¬ 10 ≤ k12 := fun z => c16 ((nI_leI (a := 10) (b := k12) (by omega) (by omega)).mpr z)
        rewrite [if_neg c16] at h
        refine lv_aload_n hx hb dX3_findInOrder_19 rfl (lv_at hl 3 rfl) ?_
        refine lv_iload hx hb dX3_findInOrder_20 (lv_at hl 5 rfl) ?_
        refine crdL hx hb hK hP (k := k12) (by omega) dX3_findInOrder_22 ?_
        refine lv_astore (lv' := [(6, .ref (a (4 + k12))), (0, .ref (a 0)), (1, .int x1), (2, .int x2), (3, .ref (a 1)), (4, .int (nI 10)), (5, .int (nI k12))]) hx hb dX3_findInOrder_23 hl (by decide) rfl (fun ls hl => ?_)
        refine lv_aload hx hb dX3_findInOrder_25 (lv_at hl 0 rfl) ?_
        refine cgL hx hb hw2 hown hK hP (i := k12) (by omega) 3 (by decide) (hts (.fieldLink RX3 89 "BackupPower$Load" "state" "I") (by decide +kernel)) dX3_findInOrder_27 ?_
        refine lv_iload_n hx hb dX3_findInOrder_30 rfl (lv_at hl 2 rfl) ?_
        refine lv_icmp_ne (tgt := 47) hx hb dX3_findInOrder_31 (by decide) (fun c31 => ?_) (fun c31 => ?_)
        · rewrite [if_neg c31] at h
          exact J47 S12 (by omega) h _ _ _ hP hS (lv_sub hl [1, 2, 3, 4, 5, 6] rfl)
        · rewrite [if_pos c31] at h
          refine lv_aload_n hx hb dX3_findInOrder_34 rfl (lv_at hl 1 rfl) ?_
          refine lv_aload hx hb dX3_findInOrder_35 (lv_at hl 0 rfl) ?_
          refine gcVi (wf := CW G.2 a) (N := 20) (ad := a) (As := [.ref (a (4 + k12))]) (rest := []) (S := S12) ⟨hx, hb, hml, hown, hts⟩ hK hP hS (c_X3_countAheadOf l G a ha k12 (by omega) S12 _) (cwV 1 hts gX3_findInOrder_X3_countAheadOf rfl rfl rfl (by decide +kernel) ⟨Nat.le_of_ble_eq_true rfl, Nat.le_of_ble_eq_true rfl⟩) (crM hK hP) rfl hl.1 rfl (Nat.le_of_ble_eq_true rfl) dX3_findInOrder_37 ⟨Nat.le_of_ble_eq_true rfl, Nat.le_of_ble_eq_true rfl⟩ (fun p37 H locs ep37 hP hS => ?_)
          rewrite [← ep37] at h
          rewrite [f_X3_findInOrder_c37] at h
          refine lv_iload_n hx hb dX3_findInOrder_40 rfl (lv_at hl 3 rfl) ?_
          refine lv_icmp_ne (tgt := 47) hx hb dX3_findInOrder_41 (by decide) (fun c41 => ?_) (fun c41 => ?_)
          · rewrite [if_neg c41] at h
            exact J47 p37.2 (by omega) h _ _ _ hP hS (lv_sub hl [1, 2, 3, 4, 5, 6] rfl)
          · rewrite [if_pos c41] at h
            refine lv_aload hx hb dX3_findInOrder_44 (lv_at hl 0 rfl) ?_
            refine W.widen (k := 1) (n := 6) (Nat.le_of_ble_eq_true rfl) (Nat.le_of_ble_eq_true rfl) ?_
            exact gxRr (wf := CW G.2 a) (S := p37.2) (j := k12) hx hb hr hlocks (by omega) hP hS h dX3_findInOrder_46
  rewrite [f_X3_findInOrder] at h
  refine lv_aload_n hx hb dX3_findInOrder_0 rfl (lv_at hl 0 rfl) ?_
  refine cgM hx hb hw3 hown hK hP 0 (by decide) (v := .ref (a 1)) rfl (hts (.fieldLink RX3 11 "BackupPower" "loads" "[LBackupPower$Load;") (by decide +kernel)) dX3_findInOrder_1 ?_
  refine lv_astore_n (lv' := [(3, .ref (a 1)), (0, .ref (a 0)), (1, .int x1), (2, .int x2)]) hx hb dX3_findInOrder_4 rfl hl (by decide) rfl (fun ls hl => ?_)
  refine lv_aload_n hx hb dX3_findInOrder_5 rfl (lv_at hl 0 rfl) ?_
  refine clL hx hb hK hP dX3_findInOrder_6 ?_
  refine lv_istore (lv' := [(4, .int (nI 10)), (3, .ref (a 1)), (0, .ref (a 0)), (1, .int x1), (2, .int x2)]) hx hb dX3_findInOrder_7 hl (by decide) rfl (fun ls hl => ?_)
  refine lv_iconst (v := 0) hx hb dX3_findInOrder_9 (by decide) ?_
  refine lv_istore (lv' := [(5, .int 0), (4, .int (nI 10)), (3, .ref (a 1)), (0, .ref (a 0)), (1, .int x1), (2, .int x2)]) hx hb dX3_findInOrder_10 hl (by decide) rfl (fun ls hl => ?_)
  exact L12 (10 + 1) 0 S (by omega) (by omega) h _ _ _ hP hS (lv_sub hl [3, 4, 5, 2, 1, 0] rfl)

def f_X3_stateOf_c2 (x1 : Int32) : (Nat × CS) ⊕ (Nat × CS) → (Int32 × CS) ⊕ (Nat × CS)
  | Sum.inl p2 => (Sum.inl (p2.2.2.1 p2.1 3, p2.2))
  | Sum.inr p2 => Sum.inr p2
def f_X3_stateOf (x1 : Int32) (S : CS) : (Int32 × CS) ⊕ (Nat × CS) := (f_X3_stateOf_c2 x1 (f_X3_findLoad x1 S))
set_option maxHeartbeats 4000000 in
set_option maxRecDepth 100000 in
theorem c_X3_stateOf (l : Launch) (G : WG) (a : Nat → Nat) (ha : wInj 20 a) (hst : l.stackTraces = false) (x1 : Int32) (S : CS) (hc3 : ∃ N, N ≤ 10 ∧ S.1 3 = nI N) (sz : Nat) : gxMi l yX3_stateOf wsX3_stateOf ({ frames := 7, cells := 1, slots := 6, locals := 111 }) 1 6 G 20 a (CW G.2 a) [.ref (a 0), .int x1] S sz (f_X3_stateOf x1 S) := by
  unfold gxMi
  refine vx_ofW (cc := cX3_stateOf) (maxL := 2) (ret := (some .int)) (by decide) rfl ?_
  intro p e s m args below meth c s₁ B hml htab hv
  obtain ⟨rfl, rfl, hP, hK, hexc⟩ := hv
  have hx := B.exec
  have hb := B.bytes
  have hr := B.returns
  have hts := atoms_spec (ws := wsX3_stateOf) B.pre
  have hown : s.vm.findClass RX3 = some m.cls := findClass_of_methodNamed B.named
  have hlocks := B.notSynchronized
  have hS : va_S (wA 20 a s.heap.size) s.heap s.heap [] := va_S.rf
  have hw2 : ∀ w ∈ wsX20, w.before ([.ref (a 0), .int x1] : List Value).toArray s = true := fun w hw => hts w ((by decide +kernel : ∀ w ∈ wsX20, w ∈ wsX3_stateOf) w hw)
  have hl := lv_entry ([.ref (a 0), .int x1]) (n := 2) (Nat.le_of_ble_eq_true rfl)
  rw [lg_entry_eq]
  generalize (lg_sl ([.ref (a 0), .int x1] : List Value) ++ List.replicate (2 - (lg_sl ([.ref (a 0), .int x1] : List Value)).length) Slot.unset).toArray = ls at hl ⊢
  have hl : lv_has ls 2 [(0, .ref (a 0)), (1, .int x1)] := hl
  generalize hF : f_X3_stateOf x1 S = F
  have h : f_X3_stateOf x1 S = F := hF
  clear hF
  show W p l e ({ frames := 7, cells := 1, slots := 6, locals := 111 } : Room) s m ([.ref (a 0), .int x1] : List Value).toArray below meth c s.heap [] 0 0 (gxQi below 1 6 G (CW G.2 a) 20 a F ([.ref (a 0), .int x1] : List Value).toArray s) (F0 m 0 ls [])
  rewrite [f_X3_stateOf] at h
  refine lv_aload_n hx hb dX3_stateOf_0 rfl (lv_at hl 0 rfl) ?_
  refine lv_iload_n hx hb dX3_stateOf_1 rfl (lv_at hl 1 rfl) ?_
  refine gxcVr (wf := CW G.2 a) (N := 20) (ad := a) (fo := fun j => a (4 + j)) (B9 := 10) (As := [.int x1]) (rest := []) (S := S) hexc ⟨hx, hb, hml, hown, hts⟩ hK hP hS (c_X3_findLoad l G a ha hst x1 S hc3 _) (cwV 1 hts gX3_stateOf_X3_findLoad rfl rfl rfl (by decide +kernel) ⟨Nat.le_of_ble_eq_true rfl, Nat.le_of_ble_eq_true rfl⟩) (crM hK hP) rfl hl.1 rfl (Nat.le_of_ble_eq_true rfl) dX3_stateOf_2 ⟨Nat.le_of_ble_eq_true rfl, Nat.le_of_ble_eq_true rfl⟩ (fun p2 ce q9 H locs ep2 hP hS hce hcv hcl => ?_) (fun p2 H locs ep2 hjp2 hP hS => ?_)
  · rewrite [← ep2, f_X3_stateOf_c2] at h
    exact gxO (S := p2.2) (u := p2.1) hlocks htab hP hS hce hcv hcl ⟨Nat.le_of_ble_eq_true rfl, Nat.le_of_ble_eq_true rfl⟩ h
  · rewrite [← ep2, f_X3_stateOf_c2] at h
    refine cgL hx hb hw2 hown hK hP (i := p2.1) (by omega) 3 (by decide) (hts (.fieldLink RX3 89 "BackupPower$Load" "state" "I") (by decide +kernel)) dX3_stateOf_5 ?_
    refine W.widen (k := 1) (n := 6) (Nat.le_of_ble_eq_true rfl) (Nat.le_of_ble_eq_true rfl) ?_
    exact gxRi (wf := CW G.2 a) (S := p2.2) hx hb hr hlocks hP hS h dX3_stateOf_8

def f_X3_energyOf_c2 (x1 : Int32) : (Nat × CS) ⊕ (Nat × CS) → (Int32 × CS) ⊕ (Nat × CS)
  | Sum.inl p2 => (Sum.inl (p2.2.2.1 p2.1 4, p2.2))
  | Sum.inr p2 => Sum.inr p2
def f_X3_energyOf (x1 : Int32) (S : CS) : (Int32 × CS) ⊕ (Nat × CS) := (f_X3_energyOf_c2 x1 (f_X3_findLoad x1 S))
set_option maxHeartbeats 4000000 in
set_option maxRecDepth 100000 in
theorem c_X3_energyOf (l : Launch) (G : WG) (a : Nat → Nat) (ha : wInj 20 a) (hst : l.stackTraces = false) (x1 : Int32) (S : CS) (hc3 : ∃ N, N ≤ 10 ∧ S.1 3 = nI N) (sz : Nat) : gxMi l yX3_energyOf wsX3_energyOf ({ frames := 7, cells := 1, slots := 6, locals := 111 }) 1 6 G 20 a (CW G.2 a) [.ref (a 0), .int x1] S sz (f_X3_energyOf x1 S) := by
  unfold gxMi
  refine vx_ofW (cc := cX3_energyOf) (maxL := 2) (ret := (some .int)) (by decide) rfl ?_
  intro p e s m args below meth c s₁ B hml htab hv
  obtain ⟨rfl, rfl, hP, hK, hexc⟩ := hv
  have hx := B.exec
  have hb := B.bytes
  have hr := B.returns
  have hts := atoms_spec (ws := wsX3_energyOf) B.pre
  have hown : s.vm.findClass RX3 = some m.cls := findClass_of_methodNamed B.named
  have hlocks := B.notSynchronized
  have hS : va_S (wA 20 a s.heap.size) s.heap s.heap [] := va_S.rf
  have hw2 : ∀ w ∈ wsX20, w.before ([.ref (a 0), .int x1] : List Value).toArray s = true := fun w hw => hts w ((by decide +kernel : ∀ w ∈ wsX20, w ∈ wsX3_energyOf) w hw)
  have hl := lv_entry ([.ref (a 0), .int x1]) (n := 2) (Nat.le_of_ble_eq_true rfl)
  rw [lg_entry_eq]
  generalize (lg_sl ([.ref (a 0), .int x1] : List Value) ++ List.replicate (2 - (lg_sl ([.ref (a 0), .int x1] : List Value)).length) Slot.unset).toArray = ls at hl ⊢
  have hl : lv_has ls 2 [(0, .ref (a 0)), (1, .int x1)] := hl
  generalize hF : f_X3_energyOf x1 S = F
  have h : f_X3_energyOf x1 S = F := hF
  clear hF
  show W p l e ({ frames := 7, cells := 1, slots := 6, locals := 111 } : Room) s m ([.ref (a 0), .int x1] : List Value).toArray below meth c s.heap [] 0 0 (gxQi below 1 6 G (CW G.2 a) 20 a F ([.ref (a 0), .int x1] : List Value).toArray s) (F0 m 0 ls [])
  rewrite [f_X3_energyOf] at h
  refine lv_aload_n hx hb dX3_energyOf_0 rfl (lv_at hl 0 rfl) ?_
  refine lv_iload_n hx hb dX3_energyOf_1 rfl (lv_at hl 1 rfl) ?_
  refine gxcVr (wf := CW G.2 a) (N := 20) (ad := a) (fo := fun j => a (4 + j)) (B9 := 10) (As := [.int x1]) (rest := []) (S := S) hexc ⟨hx, hb, hml, hown, hts⟩ hK hP hS (c_X3_findLoad l G a ha hst x1 S hc3 _) (cwV 1 hts gX3_energyOf_X3_findLoad rfl rfl rfl (by decide +kernel) ⟨Nat.le_of_ble_eq_true rfl, Nat.le_of_ble_eq_true rfl⟩) (crM hK hP) rfl hl.1 rfl (Nat.le_of_ble_eq_true rfl) dX3_energyOf_2 ⟨Nat.le_of_ble_eq_true rfl, Nat.le_of_ble_eq_true rfl⟩ (fun p2 ce q9 H locs ep2 hP hS hce hcv hcl => ?_) (fun p2 H locs ep2 hjp2 hP hS => ?_)
  · rewrite [← ep2, f_X3_energyOf_c2] at h
    exact gxO (S := p2.2) (u := p2.1) hlocks htab hP hS hce hcv hcl ⟨Nat.le_of_ble_eq_true rfl, Nat.le_of_ble_eq_true rfl⟩ h
  · rewrite [← ep2, f_X3_energyOf_c2] at h
    refine cgL hx hb hw2 hown hK hP (i := p2.1) (by omega) 4 (by decide) (hts (.fieldLink RX3 173 "BackupPower$Load" "energy" "I") (by decide +kernel)) dX3_energyOf_5 ?_
    refine W.widen (k := 1) (n := 6) (Nat.le_of_ble_eq_true rfl) (Nat.le_of_ble_eq_true rfl) ?_
    exact gxRi (wf := CW G.2 a) (S := p2.2) hx hb hr hlocks hP hS h dX3_energyOf_8

def f_X3_darkMinutes_c2 (x1 : Int32) : (Nat × CS) ⊕ (Nat × CS) → (Int32 × CS) ⊕ (Nat × CS)
  | Sum.inl p2 => (Sum.inl (p2.2.2.1 p2.1 5, p2.2))
  | Sum.inr p2 => Sum.inr p2
def f_X3_darkMinutes (x1 : Int32) (S : CS) : (Int32 × CS) ⊕ (Nat × CS) := (f_X3_darkMinutes_c2 x1 (f_X3_findLoad x1 S))
set_option maxHeartbeats 4000000 in
set_option maxRecDepth 100000 in
theorem c_X3_darkMinutes (l : Launch) (G : WG) (a : Nat → Nat) (ha : wInj 20 a) (hst : l.stackTraces = false) (x1 : Int32) (S : CS) (hc3 : ∃ N, N ≤ 10 ∧ S.1 3 = nI N) (sz : Nat) : gxMi l yX3_darkMinutes wsX3_darkMinutes ({ frames := 7, cells := 1, slots := 6, locals := 111 }) 1 6 G 20 a (CW G.2 a) [.ref (a 0), .int x1] S sz (f_X3_darkMinutes x1 S) := by
  unfold gxMi
  refine vx_ofW (cc := cX3_darkMinutes) (maxL := 2) (ret := (some .int)) (by decide) rfl ?_
  intro p e s m args below meth c s₁ B hml htab hv
  obtain ⟨rfl, rfl, hP, hK, hexc⟩ := hv
  have hx := B.exec
  have hb := B.bytes
  have hr := B.returns
  have hts := atoms_spec (ws := wsX3_darkMinutes) B.pre
  have hown : s.vm.findClass RX3 = some m.cls := findClass_of_methodNamed B.named
  have hlocks := B.notSynchronized
  have hS : va_S (wA 20 a s.heap.size) s.heap s.heap [] := va_S.rf
  have hw2 : ∀ w ∈ wsX20, w.before ([.ref (a 0), .int x1] : List Value).toArray s = true := fun w hw => hts w ((by decide +kernel : ∀ w ∈ wsX20, w ∈ wsX3_darkMinutes) w hw)
  have hl := lv_entry ([.ref (a 0), .int x1]) (n := 2) (Nat.le_of_ble_eq_true rfl)
  rw [lg_entry_eq]
  generalize (lg_sl ([.ref (a 0), .int x1] : List Value) ++ List.replicate (2 - (lg_sl ([.ref (a 0), .int x1] : List Value)).length) Slot.unset).toArray = ls at hl ⊢
  have hl : lv_has ls 2 [(0, .ref (a 0)), (1, .int x1)] := hl
  generalize hF : f_X3_darkMinutes x1 S = F
  have h : f_X3_darkMinutes x1 S = F := hF
  clear hF
  show W p l e ({ frames := 7, cells := 1, slots := 6, locals := 111 } : Room) s m ([.ref (a 0), .int x1] : List Value).toArray below meth c s.heap [] 0 0 (gxQi below 1 6 G (CW G.2 a) 20 a F ([.ref (a 0), .int x1] : List Value).toArray s) (F0 m 0 ls [])
  rewrite [f_X3_darkMinutes] at h
  refine lv_aload_n hx hb dX3_darkMinutes_0 rfl (lv_at hl 0 rfl) ?_
  refine lv_iload_n hx hb dX3_darkMinutes_1 rfl (lv_at hl 1 rfl) ?_
  refine gxcVr (wf := CW G.2 a) (N := 20) (ad := a) (fo := fun j => a (4 + j)) (B9 := 10) (As := [.int x1]) (rest := []) (S := S) hexc ⟨hx, hb, hml, hown, hts⟩ hK hP hS (c_X3_findLoad l G a ha hst x1 S hc3 _) (cwV 1 hts gX3_darkMinutes_X3_findLoad rfl rfl rfl (by decide +kernel) ⟨Nat.le_of_ble_eq_true rfl, Nat.le_of_ble_eq_true rfl⟩) (crM hK hP) rfl hl.1 rfl (Nat.le_of_ble_eq_true rfl) dX3_darkMinutes_2 ⟨Nat.le_of_ble_eq_true rfl, Nat.le_of_ble_eq_true rfl⟩ (fun p2 ce q9 H locs ep2 hP hS hce hcv hcl => ?_) (fun p2 H locs ep2 hjp2 hP hS => ?_)
  · rewrite [← ep2, f_X3_darkMinutes_c2] at h
    exact gxO (S := p2.2) (u := p2.1) hlocks htab hP hS hce hcv hcl ⟨Nat.le_of_ble_eq_true rfl, Nat.le_of_ble_eq_true rfl⟩ h
  · rewrite [← ep2, f_X3_darkMinutes_c2] at h
    refine cgL hx hb hw2 hown hK hP (i := p2.1) (by omega) 5 (by decide) (hts (.fieldLink RX3 176 "BackupPower$Load" "minutesShed" "I") (by decide +kernel)) dX3_darkMinutes_5 ?_
    refine W.widen (k := 1) (n := 6) (Nat.le_of_ble_eq_true rfl) (Nat.le_of_ble_eq_true rfl) ?_
    exact gxRi (wf := CW G.2 a) (S := p2.2) hx hb hr hlocks hP hS h dX3_darkMinutes_8

def f_X3_chargeOf_c2 (x1 : Int32) : (Nat × CS) ⊕ (Nat × CS) → (Int32 × CS) ⊕ (Nat × CS)
  | Sum.inl p2 => (Sum.inl (p2.2.2.2.1 p2.1 1, p2.2))
  | Sum.inr p2 => Sum.inr p2
def f_X3_chargeOf (x1 : Int32) (S : CS) : (Int32 × CS) ⊕ (Nat × CS) := (f_X3_chargeOf_c2 x1 (f_X3_findBattery x1 S))
set_option maxHeartbeats 4000000 in
set_option maxRecDepth 100000 in
theorem c_X3_chargeOf (l : Launch) (G : WG) (a : Nat → Nat) (ha : wInj 20 a) (hst : l.stackTraces = false) (x1 : Int32) (S : CS) (hc3 : ∃ N, N ≤ 3 ∧ S.1 4 = nI N) (sz : Nat) : gxMi l yX3_chargeOf wsX3_chargeOf ({ frames := 7, cells := 1, slots := 6, locals := 111 }) 1 6 G 20 a (CW G.2 a) [.ref (a 0), .int x1] S sz (f_X3_chargeOf x1 S) := by
  unfold gxMi
  refine vx_ofW (cc := cX3_chargeOf) (maxL := 2) (ret := (some .int)) (by decide) rfl ?_
  intro p e s m args below meth c s₁ B hml htab hv
  obtain ⟨rfl, rfl, hP, hK, hexc⟩ := hv
  have hx := B.exec
  have hb := B.bytes
  have hr := B.returns
  have hts := atoms_spec (ws := wsX3_chargeOf) B.pre
  have hown : s.vm.findClass RX3 = some m.cls := findClass_of_methodNamed B.named
  have hlocks := B.notSynchronized
  have hS : va_S (wA 20 a s.heap.size) s.heap s.heap [] := va_S.rf
  have hw0 : ∀ w ∈ wsX00, w.before ([.ref (a 0), .int x1] : List Value).toArray s = true := fun w hw => hts w ((by decide +kernel : ∀ w ∈ wsX00, w ∈ wsX3_chargeOf) w hw)
  have hl := lv_entry ([.ref (a 0), .int x1]) (n := 2) (Nat.le_of_ble_eq_true rfl)
  rw [lg_entry_eq]
  generalize (lg_sl ([.ref (a 0), .int x1] : List Value) ++ List.replicate (2 - (lg_sl ([.ref (a 0), .int x1] : List Value)).length) Slot.unset).toArray = ls at hl ⊢
  have hl : lv_has ls 2 [(0, .ref (a 0)), (1, .int x1)] := hl
  generalize hF : f_X3_chargeOf x1 S = F
  have h : f_X3_chargeOf x1 S = F := hF
  clear hF
  show W p l e ({ frames := 7, cells := 1, slots := 6, locals := 111 } : Room) s m ([.ref (a 0), .int x1] : List Value).toArray below meth c s.heap [] 0 0 (gxQi below 1 6 G (CW G.2 a) 20 a F ([.ref (a 0), .int x1] : List Value).toArray s) (F0 m 0 ls [])
  rewrite [f_X3_chargeOf] at h
  refine lv_aload_n hx hb dX3_chargeOf_0 rfl (lv_at hl 0 rfl) ?_
  refine lv_iload_n hx hb dX3_chargeOf_1 rfl (lv_at hl 1 rfl) ?_
  refine gxcVr (wf := CW G.2 a) (N := 20) (ad := a) (fo := fun j => a (14 + j)) (B9 := 3) (As := [.int x1]) (rest := []) (S := S) hexc ⟨hx, hb, hml, hown, hts⟩ hK hP hS (c_X3_findBattery l G a ha hst x1 S hc3 _) (cwV 1 hts gX3_chargeOf_X3_findBattery rfl rfl rfl (by decide +kernel) ⟨Nat.le_of_ble_eq_true rfl, Nat.le_of_ble_eq_true rfl⟩) (crM hK hP) rfl hl.1 rfl (Nat.le_of_ble_eq_true rfl) dX3_chargeOf_2 ⟨Nat.le_of_ble_eq_true rfl, Nat.le_of_ble_eq_true rfl⟩ (fun p2 ce q9 H locs ep2 hP hS hce hcv hcl => ?_) (fun p2 H locs ep2 hjp2 hP hS => ?_)
  · rewrite [← ep2, f_X3_chargeOf_c2] at h
    exact gxO (S := p2.2) (u := p2.1) hlocks htab hP hS hce hcv hcl ⟨Nat.le_of_ble_eq_true rfl, Nat.le_of_ble_eq_true rfl⟩ h
  · rewrite [← ep2, f_X3_chargeOf_c2] at h
    refine cgB hx hb hw0 hown hK hP (i := p2.1) (by omega) 1 (by decide) (hts (.fieldLink RX3 153 "BackupPower$Battery" "charge" "I") (by decide +kernel)) dX3_chargeOf_5 ?_
    refine W.widen (k := 1) (n := 6) (Nat.le_of_ble_eq_true rfl) (Nat.le_of_ble_eq_true rfl) ?_
    exact gxRi (wf := CW G.2 a) (S := p2.2) hx hb hr hlocks hP hS h dX3_chargeOf_8

def f_X3_capacityOf_c2 (x1 : Int32) : (Nat × CS) ⊕ (Nat × CS) → (Int32 × CS) ⊕ (Nat × CS)
  | Sum.inl p2 => (Sum.inl (p2.2.2.2.1 p2.1 0, p2.2))
  | Sum.inr p2 => Sum.inr p2
def f_X3_capacityOf (x1 : Int32) (S : CS) : (Int32 × CS) ⊕ (Nat × CS) := (f_X3_capacityOf_c2 x1 (f_X3_findBattery x1 S))
set_option maxHeartbeats 4000000 in
set_option maxRecDepth 100000 in
theorem c_X3_capacityOf (l : Launch) (G : WG) (a : Nat → Nat) (ha : wInj 20 a) (hst : l.stackTraces = false) (x1 : Int32) (S : CS) (hc3 : ∃ N, N ≤ 3 ∧ S.1 4 = nI N) (sz : Nat) : gxMi l yX3_capacityOf wsX3_capacityOf ({ frames := 7, cells := 1, slots := 6, locals := 111 }) 1 6 G 20 a (CW G.2 a) [.ref (a 0), .int x1] S sz (f_X3_capacityOf x1 S) := by
  unfold gxMi
  refine vx_ofW (cc := cX3_capacityOf) (maxL := 2) (ret := (some .int)) (by decide) rfl ?_
  intro p e s m args below meth c s₁ B hml htab hv
  obtain ⟨rfl, rfl, hP, hK, hexc⟩ := hv
  have hx := B.exec
  have hb := B.bytes
  have hr := B.returns
  have hts := atoms_spec (ws := wsX3_capacityOf) B.pre
  have hown : s.vm.findClass RX3 = some m.cls := findClass_of_methodNamed B.named
  have hlocks := B.notSynchronized
  have hS : va_S (wA 20 a s.heap.size) s.heap s.heap [] := va_S.rf
  have hw0 : ∀ w ∈ wsX00, w.before ([.ref (a 0), .int x1] : List Value).toArray s = true := fun w hw => hts w ((by decide +kernel : ∀ w ∈ wsX00, w ∈ wsX3_capacityOf) w hw)
  have hl := lv_entry ([.ref (a 0), .int x1]) (n := 2) (Nat.le_of_ble_eq_true rfl)
  rw [lg_entry_eq]
  generalize (lg_sl ([.ref (a 0), .int x1] : List Value) ++ List.replicate (2 - (lg_sl ([.ref (a 0), .int x1] : List Value)).length) Slot.unset).toArray = ls at hl ⊢
  have hl : lv_has ls 2 [(0, .ref (a 0)), (1, .int x1)] := hl
  generalize hF : f_X3_capacityOf x1 S = F
  have h : f_X3_capacityOf x1 S = F := hF
  clear hF
  show W p l e ({ frames := 7, cells := 1, slots := 6, locals := 111 } : Room) s m ([.ref (a 0), .int x1] : List Value).toArray below meth c s.heap [] 0 0 (gxQi below 1 6 G (CW G.2 a) 20 a F ([.ref (a 0), .int x1] : List Value).toArray s) (F0 m 0 ls [])
  rewrite [f_X3_capacityOf] at h
  refine lv_aload_n hx hb dX3_capacityOf_0 rfl (lv_at hl 0 rfl) ?_
  refine lv_iload_n hx hb dX3_capacityOf_1 rfl (lv_at hl 1 rfl) ?_
  refine gxcVr (wf := CW G.2 a) (N := 20) (ad := a) (fo := fun j => a (14 + j)) (B9 := 3) (As := [.int x1]) (rest := []) (S := S) hexc ⟨hx, hb, hml, hown, hts⟩ hK hP hS (c_X3_findBattery l G a ha hst x1 S hc3 _) (cwV 1 hts gX3_capacityOf_X3_findBattery rfl rfl rfl (by decide +kernel) ⟨Nat.le_of_ble_eq_true rfl, Nat.le_of_ble_eq_true rfl⟩) (crM hK hP) rfl hl.1 rfl (Nat.le_of_ble_eq_true rfl) dX3_capacityOf_2 ⟨Nat.le_of_ble_eq_true rfl, Nat.le_of_ble_eq_true rfl⟩ (fun p2 ce q9 H locs ep2 hP hS hce hcv hcl => ?_) (fun p2 H locs ep2 hjp2 hP hS => ?_)
  · rewrite [← ep2, f_X3_capacityOf_c2] at h
    exact gxO (S := p2.2) (u := p2.1) hlocks htab hP hS hce hcv hcl ⟨Nat.le_of_ble_eq_true rfl, Nat.le_of_ble_eq_true rfl⟩ h
  · rewrite [← ep2, f_X3_capacityOf_c2] at h
    refine cgB hx hb hw0 hown hK hP (i := p2.1) (by omega) 0 (by decide) (hts (.fieldLink RX3 156 "BackupPower$Battery" "capacity" "I") (by decide +kernel)) dX3_capacityOf_5 ?_
    refine W.widen (k := 1) (n := 6) (Nat.le_of_ble_eq_true rfl) (Nat.le_of_ble_eq_true rfl) ?_
    exact gxRi (wf := CW G.2 a) (S := p2.2) hx hb hr hlocks hP hS h dX3_capacityOf_8

def f_X3_fuelOf_c2 (x1 : Int32) : (Nat × CS) ⊕ (Nat × CS) → (Int32 × CS) ⊕ (Nat × CS)
  | Sum.inl p2 => (Sum.inl (p2.2.2.2.2 p2.1 3, p2.2))
  | Sum.inr p2 => Sum.inr p2
def f_X3_fuelOf (x1 : Int32) (S : CS) : (Int32 × CS) ⊕ (Nat × CS) := (f_X3_fuelOf_c2 x1 (f_X3_findGenerator x1 S))
set_option maxHeartbeats 4000000 in
set_option maxRecDepth 100000 in
theorem c_X3_fuelOf (l : Launch) (G : WG) (a : Nat → Nat) (ha : wInj 20 a) (hst : l.stackTraces = false) (x1 : Int32) (S : CS) (hc3 : ∃ N, N ≤ 3 ∧ S.1 5 = nI N) (sz : Nat) : gxMi l yX3_fuelOf wsX3_fuelOf ({ frames := 7, cells := 1, slots := 6, locals := 111 }) 1 6 G 20 a (CW G.2 a) [.ref (a 0), .int x1] S sz (f_X3_fuelOf x1 S) := by
  unfold gxMi
  refine vx_ofW (cc := cX3_fuelOf) (maxL := 2) (ret := (some .int)) (by decide) rfl ?_
  intro p e s m args below meth c s₁ B hml htab hv
  obtain ⟨rfl, rfl, hP, hK, hexc⟩ := hv
  have hx := B.exec
  have hb := B.bytes
  have hr := B.returns
  have hts := atoms_spec (ws := wsX3_fuelOf) B.pre
  have hown : s.vm.findClass RX3 = some m.cls := findClass_of_methodNamed B.named
  have hlocks := B.notSynchronized
  have hS : va_S (wA 20 a s.heap.size) s.heap s.heap [] := va_S.rf
  have hw1 : ∀ w ∈ wsX10, w.before ([.ref (a 0), .int x1] : List Value).toArray s = true := fun w hw => hts w ((by decide +kernel : ∀ w ∈ wsX10, w ∈ wsX3_fuelOf) w hw)
  have hl := lv_entry ([.ref (a 0), .int x1]) (n := 2) (Nat.le_of_ble_eq_true rfl)
  rw [lg_entry_eq]
  generalize (lg_sl ([.ref (a 0), .int x1] : List Value) ++ List.replicate (2 - (lg_sl ([.ref (a 0), .int x1] : List Value)).length) Slot.unset).toArray = ls at hl ⊢
  have hl : lv_has ls 2 [(0, .ref (a 0)), (1, .int x1)] := hl
  generalize hF : f_X3_fuelOf x1 S = F
  have h : f_X3_fuelOf x1 S = F := hF
  clear hF
  show W p l e ({ frames := 7, cells := 1, slots := 6, locals := 111 } : Room) s m ([.ref (a 0), .int x1] : List Value).toArray below meth c s.heap [] 0 0 (gxQi below 1 6 G (CW G.2 a) 20 a F ([.ref (a 0), .int x1] : List Value).toArray s) (F0 m 0 ls [])
  rewrite [f_X3_fuelOf] at h
  refine lv_aload_n hx hb dX3_fuelOf_0 rfl (lv_at hl 0 rfl) ?_
  refine lv_iload_n hx hb dX3_fuelOf_1 rfl (lv_at hl 1 rfl) ?_
  refine gxcVr (wf := CW G.2 a) (N := 20) (ad := a) (fo := fun j => a (17 + j)) (B9 := 3) (As := [.int x1]) (rest := []) (S := S) hexc ⟨hx, hb, hml, hown, hts⟩ hK hP hS (c_X3_findGenerator l G a ha hst x1 S hc3 _) (cwV 1 hts gX3_fuelOf_X3_findGenerator rfl rfl rfl (by decide +kernel) ⟨Nat.le_of_ble_eq_true rfl, Nat.le_of_ble_eq_true rfl⟩) (crM hK hP) rfl hl.1 rfl (Nat.le_of_ble_eq_true rfl) dX3_fuelOf_2 ⟨Nat.le_of_ble_eq_true rfl, Nat.le_of_ble_eq_true rfl⟩ (fun p2 ce q9 H locs ep2 hP hS hce hcv hcl => ?_) (fun p2 H locs ep2 hjp2 hP hS => ?_)
  · rewrite [← ep2, f_X3_fuelOf_c2] at h
    exact gxO (S := p2.2) (u := p2.1) hlocks htab hP hS hce hcv hcl ⟨Nat.le_of_ble_eq_true rfl, Nat.le_of_ble_eq_true rfl⟩ h
  · rewrite [← ep2, f_X3_fuelOf_c2] at h
    refine cgG hx hb hw1 hown hK hP (i := p2.1) (by omega) 3 (by decide) (hts (.fieldLink RX3 106 "BackupPower$Generator" "fuel" "I") (by decide +kernel)) dX3_fuelOf_5 ?_
    refine W.widen (k := 1) (n := 6) (Nat.le_of_ble_eq_true rfl) (Nat.le_of_ble_eq_true rfl) ?_
    exact gxRi (wf := CW G.2 a) (S := p2.2) hx hb hr hlocks hP hS h dX3_fuelOf_8

def f_X3_failedStarts_c2 (x1 : Int32) : (Nat × CS) ⊕ (Nat × CS) → (Int32 × CS) ⊕ (Nat × CS)
  | Sum.inl p2 => (Sum.inl (p2.2.2.2.2 p2.1 10, p2.2))
  | Sum.inr p2 => Sum.inr p2
def f_X3_failedStarts (x1 : Int32) (S : CS) : (Int32 × CS) ⊕ (Nat × CS) := (f_X3_failedStarts_c2 x1 (f_X3_findGenerator x1 S))
set_option maxHeartbeats 4000000 in
set_option maxRecDepth 100000 in
theorem c_X3_failedStarts (l : Launch) (G : WG) (a : Nat → Nat) (ha : wInj 20 a) (hst : l.stackTraces = false) (x1 : Int32) (S : CS) (hc3 : ∃ N, N ≤ 3 ∧ S.1 5 = nI N) (sz : Nat) : gxMi l yX3_failedStarts wsX3_failedStarts ({ frames := 7, cells := 1, slots := 6, locals := 111 }) 1 6 G 20 a (CW G.2 a) [.ref (a 0), .int x1] S sz (f_X3_failedStarts x1 S) := by
  unfold gxMi
  refine vx_ofW (cc := cX3_failedStarts) (maxL := 2) (ret := (some .int)) (by decide) rfl ?_
  intro p e s m args below meth c s₁ B hml htab hv
  obtain ⟨rfl, rfl, hP, hK, hexc⟩ := hv
  have hx := B.exec
  have hb := B.bytes
  have hr := B.returns
  have hts := atoms_spec (ws := wsX3_failedStarts) B.pre
  have hown : s.vm.findClass RX3 = some m.cls := findClass_of_methodNamed B.named
  have hlocks := B.notSynchronized
  have hS : va_S (wA 20 a s.heap.size) s.heap s.heap [] := va_S.rf
  have hw1 : ∀ w ∈ wsX10, w.before ([.ref (a 0), .int x1] : List Value).toArray s = true := fun w hw => hts w ((by decide +kernel : ∀ w ∈ wsX10, w ∈ wsX3_failedStarts) w hw)
  have hl := lv_entry ([.ref (a 0), .int x1]) (n := 2) (Nat.le_of_ble_eq_true rfl)
  rw [lg_entry_eq]
  generalize (lg_sl ([.ref (a 0), .int x1] : List Value) ++ List.replicate (2 - (lg_sl ([.ref (a 0), .int x1] : List Value)).length) Slot.unset).toArray = ls at hl ⊢
  have hl : lv_has ls 2 [(0, .ref (a 0)), (1, .int x1)] := hl
  generalize hF : f_X3_failedStarts x1 S = F
  have h : f_X3_failedStarts x1 S = F := hF
  clear hF
  show W p l e ({ frames := 7, cells := 1, slots := 6, locals := 111 } : Room) s m ([.ref (a 0), .int x1] : List Value).toArray below meth c s.heap [] 0 0 (gxQi below 1 6 G (CW G.2 a) 20 a F ([.ref (a 0), .int x1] : List Value).toArray s) (F0 m 0 ls [])
  rewrite [f_X3_failedStarts] at h
  refine lv_aload_n hx hb dX3_failedStarts_0 rfl (lv_at hl 0 rfl) ?_
  refine lv_iload_n hx hb dX3_failedStarts_1 rfl (lv_at hl 1 rfl) ?_
  refine gxcVr (wf := CW G.2 a) (N := 20) (ad := a) (fo := fun j => a (17 + j)) (B9 := 3) (As := [.int x1]) (rest := []) (S := S) hexc ⟨hx, hb, hml, hown, hts⟩ hK hP hS (c_X3_findGenerator l G a ha hst x1 S hc3 _) (cwV 1 hts gX3_failedStarts_X3_findGenerator rfl rfl rfl (by decide +kernel) ⟨Nat.le_of_ble_eq_true rfl, Nat.le_of_ble_eq_true rfl⟩) (crM hK hP) rfl hl.1 rfl (Nat.le_of_ble_eq_true rfl) dX3_failedStarts_2 ⟨Nat.le_of_ble_eq_true rfl, Nat.le_of_ble_eq_true rfl⟩ (fun p2 ce q9 H locs ep2 hP hS hce hcv hcl => ?_) (fun p2 H locs ep2 hjp2 hP hS => ?_)
  · rewrite [← ep2, f_X3_failedStarts_c2] at h
    exact gxO (S := p2.2) (u := p2.1) hlocks htab hP hS hce hcv hcl ⟨Nat.le_of_ble_eq_true rfl, Nat.le_of_ble_eq_true rfl⟩ h
  · rewrite [← ep2, f_X3_failedStarts_c2] at h
    refine cgG hx hb hw1 hown hK hP (i := p2.1) (by omega) 10 (by decide) (hts (.fieldLink RX3 191 "BackupPower$Generator" "startsFailed" "I") (by decide +kernel)) dX3_failedStarts_5 ?_
    refine W.widen (k := 1) (n := 6) (Nat.le_of_ble_eq_true rfl) (Nat.le_of_ble_eq_true rfl) ?_
    exact gxRi (wf := CW G.2 a) (S := p2.2) hx hb hr hlocks hP hS h dX3_failedStarts_8

def f_X3_generatorState_b27 (x1 : Int32) (S27 : CS) (s0_27 : Int32) : (Int32 × CS) ⊕ (Nat × CS) := (Sum.inl (s0_27, S27))
def f_X3_generatorState_c2 (x1 : Int32) : (Nat × CS) ⊕ (Nat × CS) → (Int32 × CS) ⊕ (Nat × CS)
  | Sum.inl p2 => (if (p2.2.2.2.2 p2.1 5) = 0 then (f_X3_generatorState_b27 x1 p2.2 (p2.2.2.2.2 p2.1 4)) else (f_X3_generatorState_b27 x1 p2.2 ((p2.2.2.2.2 p2.1 4) + 10)))
  | Sum.inr p2 => Sum.inr p2
def f_X3_generatorState (x1 : Int32) (S : CS) : (Int32 × CS) ⊕ (Nat × CS) := (f_X3_generatorState_c2 x1 (f_X3_findGenerator x1 S))
set_option maxHeartbeats 4000000 in
set_option maxRecDepth 100000 in
theorem c_X3_generatorState (l : Launch) (G : WG) (a : Nat → Nat) (ha : wInj 20 a) (hst : l.stackTraces = false) (x1 : Int32) (S : CS) (hc3 : ∃ N, N ≤ 3 ∧ S.1 5 = nI N) (sz : Nat) : gxMi l yX3_generatorState wsX3_generatorState ({ frames := 7, cells := 1, slots := 6, locals := 111 }) 1 6 G 20 a (CW G.2 a) [.ref (a 0), .int x1] S sz (f_X3_generatorState x1 S) := by
  unfold gxMi
  refine vx_ofW (cc := cX3_generatorState) (maxL := 3) (ret := (some .int)) (by decide) rfl ?_
  intro p e s m args below meth c s₁ B hml htab hv
  obtain ⟨rfl, rfl, hP, hK, hexc⟩ := hv
  have hx := B.exec
  have hb := B.bytes
  have hr := B.returns
  have hts := atoms_spec (ws := wsX3_generatorState) B.pre
  have hown : s.vm.findClass RX3 = some m.cls := findClass_of_methodNamed B.named
  have hlocks := B.notSynchronized
  have hS : va_S (wA 20 a s.heap.size) s.heap s.heap [] := va_S.rf
  have hw1 : ∀ w ∈ wsX10, w.before ([.ref (a 0), .int x1] : List Value).toArray s = true := fun w hw => hts w ((by decide +kernel : ∀ w ∈ wsX10, w ∈ wsX3_generatorState) w hw)
  have hl := lv_entry ([.ref (a 0), .int x1]) (n := 3) (Nat.le_of_ble_eq_true rfl)
  rw [lg_entry_eq]
  generalize (lg_sl ([.ref (a 0), .int x1] : List Value) ++ List.replicate (3 - (lg_sl ([.ref (a 0), .int x1] : List Value)).length) Slot.unset).toArray = ls at hl ⊢
  have hl : lv_has ls 3 [(0, .ref (a 0)), (1, .int x1)] := hl
  generalize hF : f_X3_generatorState x1 S = F
  have h : f_X3_generatorState x1 S = F := hF
  clear hF
  show W p l e ({ frames := 7, cells := 1, slots := 6, locals := 111 } : Room) s m ([.ref (a 0), .int x1] : List Value).toArray below meth c s.heap [] 0 0 (gxQi below 1 6 G (CW G.2 a) 20 a F ([.ref (a 0), .int x1] : List Value).toArray s) (F0 m 0 ls [])
  have J27 : ∀ (S27 : CS) (s0_27 : Int32), f_X3_generatorState_b27 x1 S27 s0_27 = F → ∀ (H : Heap) (locs : List Loc) (ls : Array Slot), wC G a S27 H → va_S (wA 20 a s.heap.size) s.heap H locs → lv_has ls 3 [] → W p l e ({ frames := 7, cells := 1, slots := 6, locals := 111 } : Room) s m ([.ref (a 0), .int x1] : List Value).toArray below meth c H locs 1 6 (gxQi below 1 6 G (CW G.2 a) 20 a F ([.ref (a 0), .int x1] : List Value).toArray s) (F0 m 27 ls [.int s0_27]) := by
    intro S27 s0_27 h H locs ls hP hS hl
    rewrite [f_X3_generatorState_b27] at h
    refine W.widen (k := 1) (n := 6) (Nat.le_of_ble_eq_true rfl) (Nat.le_of_ble_eq_true rfl) ?_
    exact gxRi (wf := CW G.2 a) (S := S27) hx hb hr hlocks hP hS h dX3_generatorState_27
  rewrite [f_X3_generatorState] at h
  refine lv_aload_n hx hb dX3_generatorState_0 rfl (lv_at hl 0 rfl) ?_
  refine lv_iload_n hx hb dX3_generatorState_1 rfl (lv_at hl 1 rfl) ?_
  refine gxcVr (wf := CW G.2 a) (N := 20) (ad := a) (fo := fun j => a (17 + j)) (B9 := 3) (As := [.int x1]) (rest := []) (S := S) hexc ⟨hx, hb, hml, hown, hts⟩ hK hP hS (c_X3_findGenerator l G a ha hst x1 S hc3 _) (cwV 1 hts gX3_generatorState_X3_findGenerator rfl rfl rfl (by decide +kernel) ⟨Nat.le_of_ble_eq_true rfl, Nat.le_of_ble_eq_true rfl⟩) (crM hK hP) rfl hl.1 rfl (Nat.le_of_ble_eq_true rfl) dX3_generatorState_2 ⟨Nat.le_of_ble_eq_true rfl, Nat.le_of_ble_eq_true rfl⟩ (fun p2 ce q9 H locs ep2 hP hS hce hcv hcl => ?_) (fun p2 H locs ep2 hjp2 hP hS => ?_)
  · rewrite [← ep2, f_X3_generatorState_c2] at h
    exact gxO (S := p2.2) (u := p2.1) hlocks htab hP hS hce hcv hcl ⟨Nat.le_of_ble_eq_true rfl, Nat.le_of_ble_eq_true rfl⟩ h
  · rewrite [← ep2, f_X3_generatorState_c2] at h
    refine lv_astore_n (lv' := [(2, .ref (a (17 + p2.1))), (0, .ref (a 0)), (1, .int x1)]) hx hb dX3_generatorState_5 rfl hl (by decide) rfl (fun ls hl => ?_)
    refine lv_aload_n hx hb dX3_generatorState_6 rfl (lv_at hl 0 rfl) ?_
    refine cgG hx hb hw1 hown hK hP (i := p2.1) (by omega) 5 (by decide) (hts (.fieldLink RX3 159 "BackupPower$Generator" "onTest" "Z") (by decide +kernel)) dX3_generatorState_7 ?_
    refine lv_if_eq (tgt := 23) hx hb dX3_generatorState_10 (by decide) (fun c10 => ?_) (fun c10 => ?_)
    · rewrite [if_pos c10] at h
      refine lv_aload_n hx hb dX3_generatorState_23 rfl (lv_at hl 0 rfl) ?_
      refine cgG hx hb hw1 hown hK hP (i := p2.1) (by omega) 4 (by decide) (hts (.fieldLink RX3 162 "BackupPower$Generator" "state" "I") (by decide +kernel)) dX3_generatorState_24 ?_
      exact J27 p2.2 (p2.2.2.2.2 p2.1 4) h _ _ _ hP hS (lv_sub hl [] rfl)
    · rewrite [if_neg c10] at h
      refine lv_aload_n hx hb dX3_generatorState_13 rfl (lv_at hl 0 rfl) ?_
      refine cgG hx hb hw1 hown hK hP (i := p2.1) (by omega) 4 (by decide) (hts (.fieldLink RX3 162 "BackupPower$Generator" "state" "I") (by decide +kernel)) dX3_generatorState_14 ?_
      refine lv_bipush (v := 10) hx hb dX3_generatorState_17 (by decide) ?_
      refine lv_iadd hx hb dX3_generatorState_19 ?_
      refine lv_goto (tgt := 27) hx hb dX3_generatorState_20 (by decide) ?_
      exact J27 p2.2 ((p2.2.2.2.2 p2.1 4) + 10) h _ _ _ hP hS (lv_sub hl [] rfl)

def f_X3_tests_c2 (x1 : Int32) : (Nat × CS) ⊕ (Nat × CS) → (Int32 × CS) ⊕ (Nat × CS)
  | Sum.inl p2 => (Sum.inl ((1000 * (p2.2.2.2.2 p2.1 13)) + (p2.2.2.2.2 p2.1 14), p2.2))
  | Sum.inr p2 => Sum.inr p2
def f_X3_tests (x1 : Int32) (S : CS) : (Int32 × CS) ⊕ (Nat × CS) := (f_X3_tests_c2 x1 (f_X3_findGenerator x1 S))
set_option maxHeartbeats 4000000 in
set_option maxRecDepth 100000 in
theorem c_X3_tests (l : Launch) (G : WG) (a : Nat → Nat) (ha : wInj 20 a) (hst : l.stackTraces = false) (x1 : Int32) (S : CS) (hc3 : ∃ N, N ≤ 3 ∧ S.1 5 = nI N) (sz : Nat) : gxMi l yX3_tests wsX3_tests ({ frames := 7, cells := 1, slots := 6, locals := 111 }) 1 6 G 20 a (CW G.2 a) [.ref (a 0), .int x1] S sz (f_X3_tests x1 S) := by
  unfold gxMi
  refine vx_ofW (cc := cX3_tests) (maxL := 3) (ret := (some .int)) (by decide) rfl ?_
  intro p e s m args below meth c s₁ B hml htab hv
  obtain ⟨rfl, rfl, hP, hK, hexc⟩ := hv
  have hx := B.exec
  have hb := B.bytes
  have hr := B.returns
  have hts := atoms_spec (ws := wsX3_tests) B.pre
  have hown : s.vm.findClass RX3 = some m.cls := findClass_of_methodNamed B.named
  have hlocks := B.notSynchronized
  have hS : va_S (wA 20 a s.heap.size) s.heap s.heap [] := va_S.rf
  have hw1 : ∀ w ∈ wsX10, w.before ([.ref (a 0), .int x1] : List Value).toArray s = true := fun w hw => hts w ((by decide +kernel : ∀ w ∈ wsX10, w ∈ wsX3_tests) w hw)
  have hl := lv_entry ([.ref (a 0), .int x1]) (n := 3) (Nat.le_of_ble_eq_true rfl)
  rw [lg_entry_eq]
  generalize (lg_sl ([.ref (a 0), .int x1] : List Value) ++ List.replicate (3 - (lg_sl ([.ref (a 0), .int x1] : List Value)).length) Slot.unset).toArray = ls at hl ⊢
  have hl : lv_has ls 3 [(0, .ref (a 0)), (1, .int x1)] := hl
  generalize hF : f_X3_tests x1 S = F
  have h : f_X3_tests x1 S = F := hF
  clear hF
  show W p l e ({ frames := 7, cells := 1, slots := 6, locals := 111 } : Room) s m ([.ref (a 0), .int x1] : List Value).toArray below meth c s.heap [] 0 0 (gxQi below 1 6 G (CW G.2 a) 20 a F ([.ref (a 0), .int x1] : List Value).toArray s) (F0 m 0 ls [])
  rewrite [f_X3_tests] at h
  refine lv_aload_n hx hb dX3_tests_0 rfl (lv_at hl 0 rfl) ?_
  refine lv_iload_n hx hb dX3_tests_1 rfl (lv_at hl 1 rfl) ?_
  refine gxcVr (wf := CW G.2 a) (N := 20) (ad := a) (fo := fun j => a (17 + j)) (B9 := 3) (As := [.int x1]) (rest := []) (S := S) hexc ⟨hx, hb, hml, hown, hts⟩ hK hP hS (c_X3_findGenerator l G a ha hst x1 S hc3 _) (cwV 1 hts gX3_tests_X3_findGenerator rfl rfl rfl (by decide +kernel) ⟨Nat.le_of_ble_eq_true rfl, Nat.le_of_ble_eq_true rfl⟩) (crM hK hP) rfl hl.1 rfl (Nat.le_of_ble_eq_true rfl) dX3_tests_2 ⟨Nat.le_of_ble_eq_true rfl, Nat.le_of_ble_eq_true rfl⟩ (fun p2 ce q9 H locs ep2 hP hS hce hcv hcl => ?_) (fun p2 H locs ep2 hjp2 hP hS => ?_)
  · rewrite [← ep2, f_X3_tests_c2] at h
    exact gxO (S := p2.2) (u := p2.1) hlocks htab hP hS hce hcv hcl ⟨Nat.le_of_ble_eq_true rfl, Nat.le_of_ble_eq_true rfl⟩ h
  · rewrite [← ep2, f_X3_tests_c2] at h
    refine lv_astore_n (lv' := [(2, .ref (a (17 + p2.1))), (0, .ref (a 0)), (1, .int x1)]) hx hb dX3_tests_5 rfl hl (by decide) rfl (fun ls hl => ?_)
    refine lv_sipush (v := 1000) hx hb dX3_tests_6 (by decide) ?_
    refine lv_aload_n hx hb dX3_tests_9 rfl (lv_at hl 0 rfl) ?_
    refine cgG hx hb hw1 hown hK hP (i := p2.1) (by omega) 13 (by decide) (hts (.fieldLink RX3 194 "BackupPower$Generator" "testsPassed" "I") (by decide +kernel)) dX3_tests_10 ?_
    refine lv_imul hx hb dX3_tests_13 ?_
    refine lv_aload_n hx hb dX3_tests_14 rfl (lv_at hl 0 rfl) ?_
    refine cgG hx hb hw1 hown hK hP (i := p2.1) (by omega) 14 (by decide) (hts (.fieldLink RX3 197 "BackupPower$Generator" "testsFailed" "I") (by decide +kernel)) dX3_tests_15 ?_
    refine lv_iadd hx hb dX3_tests_18 ?_
    refine W.widen (k := 1) (n := 6) (Nat.le_of_ble_eq_true rfl) (Nat.le_of_ble_eq_true rfl) ?_
    exact gxRi (wf := CW G.2 a) (S := p2.2) hx hb hr hlocks hP hS h dX3_tests_19

def f_X3_switchLoad_b30 (x1 : Int32) (x2 : Int32) (S30 : CS) (v3_30 : Nat) : (Int32 × CS) ⊕ (Nat × CS) := (Sum.inl (S30.2.1 v3_30 3, S30))
def f_X3_switchLoad_c2 (x1 : Int32) (x2 : Int32) : (Nat × CS) ⊕ (Nat × CS) → (Int32 × CS) ⊕ (Nat × CS)
  | Sum.inl p2 => (if x2 = 0 then (f_X3_switchLoad_b30 x1 x2 (cuL p2.2 p2.1 3 0) p2.1) else (if (p2.2.2.1 p2.1 3) = 0 then (f_X3_switchLoad_b30 x1 x2 (cuL p2.2 p2.1 3 2) p2.1) else (f_X3_switchLoad_b30 x1 x2 p2.2 p2.1)))
  | Sum.inr p2 => Sum.inr p2
def f_X3_switchLoad (x1 : Int32) (x2 : Int32) (S : CS) : (Int32 × CS) ⊕ (Nat × CS) := (f_X3_switchLoad_c2 x1 x2 (f_X3_findLoad x1 S))
set_option maxHeartbeats 4000000 in
set_option maxRecDepth 100000 in
theorem c_X3_switchLoad (l : Launch) (G : WG) (a : Nat → Nat) (ha : wInj 20 a) (hst : l.stackTraces = false) (x1 : Int32) (x2 : Int32) (S : CS) (hc3 : ∃ N, N ≤ 10 ∧ S.1 3 = nI N) (sz : Nat) : gxMi l yX3_switchLoad wsX3_switchLoad ({ frames := 7, cells := 1, slots := 6, locals := 111 }) 1 6 G 20 a (CW G.2 a) [.ref (a 0), .int x1, .int x2] S sz (f_X3_switchLoad x1 x2 S) := by
  unfold gxMi
  refine vx_ofW (cc := cX3_switchLoad) (maxL := 4) (ret := (some .int)) (by decide) rfl ?_
  intro p e s m args below meth c s₁ B hml htab hv
  obtain ⟨rfl, rfl, hP, hK, hexc⟩ := hv
  have hx := B.exec
  have hb := B.bytes
  have hr := B.returns
  have hts := atoms_spec (ws := wsX3_switchLoad) B.pre
  have hown : s.vm.findClass RX3 = some m.cls := findClass_of_methodNamed B.named
  have hlocks := B.notSynchronized
  have hS : va_S (wA 20 a s.heap.size) s.heap s.heap [] := va_S.rf
  have hw2 : ∀ w ∈ wsX20, w.before ([.ref (a 0), .int x1, .int x2] : List Value).toArray s = true := fun w hw => hts w ((by decide +kernel : ∀ w ∈ wsX20, w ∈ wsX3_switchLoad) w hw)
  have hl := lv_entry ([.ref (a 0), .int x1, .int x2]) (n := 4) (Nat.le_of_ble_eq_true rfl)
  rw [lg_entry_eq]
  generalize (lg_sl ([.ref (a 0), .int x1, .int x2] : List Value) ++ List.replicate (4 - (lg_sl ([.ref (a 0), .int x1, .int x2] : List Value)).length) Slot.unset).toArray = ls at hl ⊢
  have hl : lv_has ls 4 [(0, .ref (a 0)), (1, .int x1), (2, .int x2)] := hl
  generalize hF : f_X3_switchLoad x1 x2 S = F
  have h : f_X3_switchLoad x1 x2 S = F := hF
  clear hF
  show W p l e ({ frames := 7, cells := 1, slots := 6, locals := 111 } : Room) s m ([.ref (a 0), .int x1, .int x2] : List Value).toArray below meth c s.heap [] 0 0 (gxQi below 1 6 G (CW G.2 a) 20 a F ([.ref (a 0), .int x1, .int x2] : List Value).toArray s) (F0 m 0 ls [])
  have J30 : ∀ (S30 : CS) (v3_30 : Nat), (v3_30 < 10) → f_X3_switchLoad_b30 x1 x2 S30 v3_30 = F → ∀ (H : Heap) (locs : List Loc) (ls : Array Slot), wC G a S30 H → va_S (wA 20 a s.heap.size) s.heap H locs → lv_has ls 4 [(3, .ref (a (4 + v3_30)))] → W p l e ({ frames := 7, cells := 1, slots := 6, locals := 111 } : Room) s m ([.ref (a 0), .int x1, .int x2] : List Value).toArray below meth c H locs 1 6 (gxQi below 1 6 G (CW G.2 a) 20 a F ([.ref (a 0), .int x1, .int x2] : List Value).toArray s) (F0 m 30 ls []) := by
    intro S30 v3_30 hv3_30 h H locs ls hP hS hl
    rewrite [f_X3_switchLoad_b30] at h
    refine lv_aload_n hx hb dX3_switchLoad_30 rfl (lv_at hl 0 rfl) ?_
    refine cgL hx hb hw2 hown hK hP (i := v3_30) (by omega) 3 (by decide) (hts (.fieldLink RX3 89 "BackupPower$Load" "state" "I") (by decide +kernel)) dX3_switchLoad_31 ?_
    refine W.widen (k := 1) (n := 6) (Nat.le_of_ble_eq_true rfl) (Nat.le_of_ble_eq_true rfl) ?_
    exact gxRi (wf := CW G.2 a) (S := S30) hx hb hr hlocks hP hS h dX3_switchLoad_34
  rewrite [f_X3_switchLoad] at h
  refine lv_aload_n hx hb dX3_switchLoad_0 rfl (lv_at hl 0 rfl) ?_
  refine lv_iload_n hx hb dX3_switchLoad_1 rfl (lv_at hl 1 rfl) ?_
  refine gxcVr (wf := CW G.2 a) (N := 20) (ad := a) (fo := fun j => a (4 + j)) (B9 := 10) (As := [.int x1]) (rest := []) (S := S) hexc ⟨hx, hb, hml, hown, hts⟩ hK hP hS (c_X3_findLoad l G a ha hst x1 S hc3 _) (cwV 1 hts gX3_switchLoad_X3_findLoad rfl rfl rfl (by decide +kernel) ⟨Nat.le_of_ble_eq_true rfl, Nat.le_of_ble_eq_true rfl⟩) (crM hK hP) rfl hl.1 rfl (Nat.le_of_ble_eq_true rfl) dX3_switchLoad_2 ⟨Nat.le_of_ble_eq_true rfl, Nat.le_of_ble_eq_true rfl⟩ (fun p2 ce q9 H locs ep2 hP hS hce hcv hcl => ?_) (fun p2 H locs ep2 hjp2 hP hS => ?_)
  · rewrite [← ep2, f_X3_switchLoad_c2] at h
    exact gxO (S := p2.2) (u := p2.1) hlocks htab hP hS hce hcv hcl ⟨Nat.le_of_ble_eq_true rfl, Nat.le_of_ble_eq_true rfl⟩ h
  · rewrite [← ep2, f_X3_switchLoad_c2] at h
    refine lv_astore_n (lv' := [(3, .ref (a (4 + p2.1))), (0, .ref (a 0)), (1, .int x1), (2, .int x2)]) hx hb dX3_switchLoad_5 rfl hl (by decide) rfl (fun ls hl => ?_)
    refine lv_iload_n hx hb dX3_switchLoad_6 rfl (lv_at hl 3 rfl) ?_
    refine lv_if_ne (tgt := 18) hx hb dX3_switchLoad_7 (by decide) (fun c7 => ?_) (fun c7 => ?_)
    · rewrite [if_neg c7] at h
      refine lv_aload_n hx hb dX3_switchLoad_18 rfl (lv_at hl 0 rfl) ?_
      refine cgL hx hb hw2 hown hK hP (i := p2.1) (by omega) 3 (by decide) (hts (.fieldLink RX3 89 "BackupPower$Load" "state" "I") (by decide +kernel)) dX3_switchLoad_19 ?_
      refine lv_if_ne (tgt := 30) hx hb dX3_switchLoad_22 (by decide) (fun c22 => ?_) (fun c22 => ?_)
      · rewrite [if_neg c22] at h
        exact J30 p2.2 p2.1 (by omega) h _ _ _ hP hS (lv_sub hl [0] rfl)
      · rewrite [if_pos c22] at h
        refine lv_aload_n hx hb dX3_switchLoad_25 rfl (lv_at hl 0 rfl) ?_
        refine lv_iconst (v := 2) hx hb dX3_switchLoad_26 (by decide) ?_
        refine cpL hx hb hw2 hown hK ha hP hS (i := p2.1) (by omega) 3 (by decide) rfl okI (hts (.fieldLink RX3 89 "BackupPower$Load" "state" "I") (by decide +kernel)) dX3_switchLoad_27 (fun H locs hP hS => ?_)
        exact J30 (cuL p2.2 p2.1 3 2) p2.1 (by omega) h _ _ _ hP hS (lv_sub hl [0] rfl)
    · rewrite [if_pos c7] at h
      refine lv_aload_n hx hb dX3_switchLoad_10 rfl (lv_at hl 0 rfl) ?_
      refine lv_iconst (v := 0) hx hb dX3_switchLoad_11 (by decide) ?_
      refine cpL hx hb hw2 hown hK ha hP hS (i := p2.1) (by omega) 3 (by decide) rfl okI (hts (.fieldLink RX3 89 "BackupPower$Load" "state" "I") (by decide +kernel)) dX3_switchLoad_12 (fun H locs hP hS => ?_)
      refine lv_goto (tgt := 30) hx hb dX3_switchLoad_15 (by decide) ?_
      exact J30 (cuL p2.2 p2.1 3 0) p2.1 (by omega) h _ _ _ hP hS (lv_sub hl [0] rfl)

def f_X3_setPower_c11 (x1 : Int32) (x2 : Int32) (p2 : Nat × CS) (p11 : Int32 × CS) : (Int32 × CS) ⊕ (Nat × CS) := (if p11.1 = 0 then (Sum.inl (p11.2.2.1 p2.1 2, (cuL p11.2 p2.1 2 x2))) else (Sum.inr (0, p11.2)))
def f_X3_setPower_c2 (x1 : Int32) (x2 : Int32) : (Nat × CS) ⊕ (Nat × CS) → (Int32 × CS) ⊕ (Nat × CS)
  | Sum.inl p2 => (f_X3_setPower_c11 x1 x2 p2 (f_X3_isOutside x2 1 500 p2.2))
  | Sum.inr p2 => Sum.inr p2
def f_X3_setPower (x1 : Int32) (x2 : Int32) (S : CS) : (Int32 × CS) ⊕ (Nat × CS) := (f_X3_setPower_c2 x1 x2 (f_X3_findLoad x1 S))
set_option maxHeartbeats 4000000 in
set_option maxRecDepth 100000 in
theorem c_X3_setPower (l : Launch) (G : WG) (a : Nat → Nat) (ha : wInj 20 a) (hst : l.stackTraces = false) (x1 : Int32) (x2 : Int32) (S : CS) (hc3 : ∃ N, N ≤ 10 ∧ S.1 3 = nI N) (sz : Nat) : gxMi l yX3_setPower wsX3_setPower ({ frames := 7, cells := 2, slots := 12, locals := 111 }) 2 12 G 20 a (CW G.2 a) [.ref (a 0), .int x1, .int x2] S sz (f_X3_setPower x1 x2 S) := by
  unfold gxMi
  refine vx_ofW (cc := cX3_setPower) (maxL := 5) (ret := (some .int)) (by decide) rfl ?_
  intro p e s m args below meth c s₁ B hml htab hv
  obtain ⟨rfl, rfl, hP, hK, hexc⟩ := hv
  have hx := B.exec
  have hb := B.bytes
  have hr := B.returns
  have hts := atoms_spec (ws := wsX3_setPower) B.pre
  have hown : s.vm.findClass RX3 = some m.cls := findClass_of_methodNamed B.named
  have hlocks := B.notSynchronized
  have hS : va_S (wA 20 a s.heap.size) s.heap s.heap [] := va_S.rf
  have hw2 : ∀ w ∈ wsX20, w.before ([.ref (a 0), .int x1, .int x2] : List Value).toArray s = true := fun w hw => hts w ((by decide +kernel : ∀ w ∈ wsX20, w ∈ wsX3_setPower) w hw)
  have hl := lv_entry ([.ref (a 0), .int x1, .int x2]) (n := 5) (Nat.le_of_ble_eq_true rfl)
  rw [lg_entry_eq]
  generalize (lg_sl ([.ref (a 0), .int x1, .int x2] : List Value) ++ List.replicate (5 - (lg_sl ([.ref (a 0), .int x1, .int x2] : List Value)).length) Slot.unset).toArray = ls at hl ⊢
  have hl : lv_has ls 5 [(0, .ref (a 0)), (1, .int x1), (2, .int x2)] := hl
  generalize hF : f_X3_setPower x1 x2 S = F
  have h : f_X3_setPower x1 x2 S = F := hF
  clear hF
  show W p l e ({ frames := 7, cells := 2, slots := 12, locals := 111 } : Room) s m ([.ref (a 0), .int x1, .int x2] : List Value).toArray below meth c s.heap [] 0 0 (gxQi below 2 12 G (CW G.2 a) 20 a F ([.ref (a 0), .int x1, .int x2] : List Value).toArray s) (F0 m 0 ls [])
  rewrite [f_X3_setPower] at h
  refine lv_aload_n hx hb dX3_setPower_0 rfl (lv_at hl 0 rfl) ?_
  refine lv_iload_n hx hb dX3_setPower_1 rfl (lv_at hl 1 rfl) ?_
  refine gxcVr (wf := CW G.2 a) (N := 20) (ad := a) (fo := fun j => a (4 + j)) (B9 := 10) (As := [.int x1]) (rest := []) (S := S) hexc ⟨hx, hb, hml, hown, hts⟩ hK hP hS (c_X3_findLoad l G a ha hst x1 S hc3 _) (cwV 1 hts gX3_setPower_X3_findLoad rfl rfl rfl (by decide +kernel) ⟨Nat.le_of_ble_eq_true rfl, Nat.le_of_ble_eq_true rfl⟩) (crM hK hP) rfl hl.1 rfl (Nat.le_of_ble_eq_true rfl) dX3_setPower_2 ⟨Nat.le_of_ble_eq_true rfl, Nat.le_of_ble_eq_true rfl⟩ (fun p2 ce q9 H locs ep2 hP hS hce hcv hcl => ?_) (fun p2 H locs ep2 hjp2 hP hS => ?_)
  · rewrite [← ep2, f_X3_setPower_c2] at h
    exact gxO (S := p2.2) (u := p2.1) hlocks htab hP hS hce hcv hcl ⟨Nat.le_of_ble_eq_true rfl, Nat.le_of_ble_eq_true rfl⟩ h
  · rewrite [← ep2, f_X3_setPower_c2] at h
    refine lv_astore_n (lv' := [(3, .ref (a (4 + p2.1))), (0, .ref (a 0)), (1, .int x1), (2, .int x2)]) hx hb dX3_setPower_5 rfl hl (by decide) rfl (fun ls hl => ?_)
    refine lv_iload_n hx hb dX3_setPower_6 rfl (lv_at hl 3 rfl) ?_
    refine lv_iconst (v := 1) hx hb dX3_setPower_7 (by decide) ?_
    refine lv_sipush (v := 500) hx hb dX3_setPower_8 (by decide) ?_
    refine gcSz (wf := CW G.2 a) (N := 20) (ad := a) (As := [.int x2, .int 1, .int 500]) (rest := []) (S := p2.2) ⟨hx, hb, hml, hown, hts⟩ hK hP hS (c_X3_isOutside l G a ha x2 1 500 p2.2 _) (va_cwS 3 hts gX3_setPower_X3_isOutside rfl rfl rfl (by decide +kernel) ⟨Nat.le_of_ble_eq_true rfl, Nat.le_of_ble_eq_true rfl⟩) rfl hl.1 rfl (Nat.le_of_ble_eq_true rfl) dX3_setPower_11 ⟨Nat.le_of_ble_eq_true rfl, Nat.le_of_ble_eq_true rfl⟩ (fun p11 H locs ep11 hbp11 hP hS => ?_)
    rewrite [← ep11] at h
    rewrite [f_X3_setPower_c11] at h
    refine lv_if_eq (tgt := 27) hx hb dX3_setPower_14 (by decide) (fun c14 => ?_) (fun c14 => ?_)
    · rewrite [if_pos c14] at h
      refine lv_aload_n hx hb dX3_setPower_27 rfl (lv_at hl 0 rfl) ?_
      refine cgL hx hb hw2 hown hK hP (i := p2.1) (by omega) 2 (by decide) (hts (.fieldLink RX3 94 "BackupPower$Load" "power" "I") (by decide +kernel)) dX3_setPower_28 ?_
      refine lv_istore (lv' := [(4, .int (p11.2.2.1 p2.1 2)), (3, .ref (a (4 + p2.1))), (0, .ref (a 0)), (1, .int x1), (2, .int x2)]) hx hb dX3_setPower_31 hl (by decide) rfl (fun ls hl => ?_)
      refine lv_aload_n hx hb dX3_setPower_33 rfl (lv_at hl 1 rfl) ?_
      refine lv_iload_n hx hb dX3_setPower_34 rfl (lv_at hl 4 rfl) ?_
      refine cpL hx hb hw2 hown hK ha hP hS (i := p2.1) (by omega) 2 (by decide) rfl okI (hts (.fieldLink RX3 94 "BackupPower$Load" "power" "I") (by decide +kernel)) dX3_setPower_35 (fun H locs hP hS => ?_)
      refine lv_iload hx hb dX3_setPower_38 (lv_at hl 0 rfl) ?_
      refine W.widen (k := 2) (n := 12) (Nat.le_of_ble_eq_true rfl) (Nat.le_of_ble_eq_true rfl) ?_
      exact gxRi (wf := CW G.2 a) (S := (cuL p11.2 p2.1 2 x2)) hx hb hr hlocks hP hS h dX3_setPower_40
    · rewrite [if_neg c14] at h
      exact gxT (wf := CW G.2 a) (N := 20) (ad := a) (u := 0) (S := p11.2) hx hb hst hown hlocks htab hexc hP hS (hl.1.trans hml.symm) (ik := 50) (is := 92) (ic := 54) (text := "power is out of range") (by decide) (hts (.classLink RX3 50 "java/lang/IllegalArgumentException") (by decide +kernel)) (hts (.initialized "java/lang/IllegalArgumentException") (by decide +kernel)) (fun w hw => hts w ((by decide +kernel : ∀ w ∈ (vx_atS RX3 54 (exN 0) exS).filter goodWord, w ∈ wsX3_setPower) w hw)) (by decide +kernel) (by decide +kernel) (by decide +kernel) dX3_setPower_17 dX3_setPower_20 dX3_setPower_21 dX3_setPower_23 dX3_setPower_26 (by decide) h

def f_X3_refuel_c11 (x1 : Int32) (x2 : Int32) (p2 : Nat × CS) (p11 : Int32 × CS) : (Int32 × CS) ⊕ (Nat × CS) := (if p11.1 = 0 then (Sum.inl ((if (p11.2.2.2.2 p2.1 2) - (p11.2.2.2.2 p2.1 3) < x2 then (p11.2.2.2.2 p2.1 2) - (p11.2.2.2.2 p2.1 3) else x2), (cuG p11.2 p2.1 3 ((p11.2.2.2.2 p2.1 3) + (if (p11.2.2.2.2 p2.1 2) - (p11.2.2.2.2 p2.1 3) < x2 then (p11.2.2.2.2 p2.1 2) - (p11.2.2.2.2 p2.1 3) else x2))))) else (Sum.inr (0, p11.2)))
def f_X3_refuel_c2 (x1 : Int32) (x2 : Int32) : (Nat × CS) ⊕ (Nat × CS) → (Int32 × CS) ⊕ (Nat × CS)
  | Sum.inl p2 => (f_X3_refuel_c11 x1 x2 p2 (f_X3_isOutside x2 1 1000 p2.2))
  | Sum.inr p2 => Sum.inr p2
def f_X3_refuel (x1 : Int32) (x2 : Int32) (S : CS) : (Int32 × CS) ⊕ (Nat × CS) := (f_X3_refuel_c2 x1 x2 (f_X3_findGenerator x1 S))
set_option maxHeartbeats 4000000 in
set_option maxRecDepth 100000 in
theorem c_X3_refuel (l : Launch) (G : WG) (a : Nat → Nat) (ha : wInj 20 a) (hst : l.stackTraces = false) (x1 : Int32) (x2 : Int32) (S : CS) (hc3 : ∃ N, N ≤ 3 ∧ S.1 5 = nI N) (sz : Nat) : gxMi l yX3_refuel wsX3_refuel ({ frames := 7, cells := 2, slots := 12, locals := 111 }) 2 12 G 20 a (CW G.2 a) [.ref (a 0), .int x1, .int x2] S sz (f_X3_refuel x1 x2 S) := by
  unfold gxMi
  refine vx_ofW (cc := cX3_refuel) (maxL := 5) (ret := (some .int)) (by decide) rfl ?_
  intro p e s m args below meth c s₁ B hml htab hv
  obtain ⟨rfl, rfl, hP, hK, hexc⟩ := hv
  have hx := B.exec
  have hb := B.bytes
  have hr := B.returns
  have hts := atoms_spec (ws := wsX3_refuel) B.pre
  have hown : s.vm.findClass RX3 = some m.cls := findClass_of_methodNamed B.named
  have hlocks := B.notSynchronized
  have hS : va_S (wA 20 a s.heap.size) s.heap s.heap [] := va_S.rf
  have hw1 : ∀ w ∈ wsX10, w.before ([.ref (a 0), .int x1, .int x2] : List Value).toArray s = true := fun w hw => hts w ((by decide +kernel : ∀ w ∈ wsX10, w ∈ wsX3_refuel) w hw)
  have hl := lv_entry ([.ref (a 0), .int x1, .int x2]) (n := 5) (Nat.le_of_ble_eq_true rfl)
  rw [lg_entry_eq]
  generalize (lg_sl ([.ref (a 0), .int x1, .int x2] : List Value) ++ List.replicate (5 - (lg_sl ([.ref (a 0), .int x1, .int x2] : List Value)).length) Slot.unset).toArray = ls at hl ⊢
  have hl : lv_has ls 5 [(0, .ref (a 0)), (1, .int x1), (2, .int x2)] := hl
  generalize hF : f_X3_refuel x1 x2 S = F
  have h : f_X3_refuel x1 x2 S = F := hF
  clear hF
  show W p l e ({ frames := 7, cells := 2, slots := 12, locals := 111 } : Room) s m ([.ref (a 0), .int x1, .int x2] : List Value).toArray below meth c s.heap [] 0 0 (gxQi below 2 12 G (CW G.2 a) 20 a F ([.ref (a 0), .int x1, .int x2] : List Value).toArray s) (F0 m 0 ls [])
  rewrite [f_X3_refuel] at h
  refine lv_aload_n hx hb dX3_refuel_0 rfl (lv_at hl 0 rfl) ?_
  refine lv_iload_n hx hb dX3_refuel_1 rfl (lv_at hl 1 rfl) ?_
  refine gxcVr (wf := CW G.2 a) (N := 20) (ad := a) (fo := fun j => a (17 + j)) (B9 := 3) (As := [.int x1]) (rest := []) (S := S) hexc ⟨hx, hb, hml, hown, hts⟩ hK hP hS (c_X3_findGenerator l G a ha hst x1 S hc3 _) (cwV 1 hts gX3_refuel_X3_findGenerator rfl rfl rfl (by decide +kernel) ⟨Nat.le_of_ble_eq_true rfl, Nat.le_of_ble_eq_true rfl⟩) (crM hK hP) rfl hl.1 rfl (Nat.le_of_ble_eq_true rfl) dX3_refuel_2 ⟨Nat.le_of_ble_eq_true rfl, Nat.le_of_ble_eq_true rfl⟩ (fun p2 ce q9 H locs ep2 hP hS hce hcv hcl => ?_) (fun p2 H locs ep2 hjp2 hP hS => ?_)
  · rewrite [← ep2, f_X3_refuel_c2] at h
    exact gxO (S := p2.2) (u := p2.1) hlocks htab hP hS hce hcv hcl ⟨Nat.le_of_ble_eq_true rfl, Nat.le_of_ble_eq_true rfl⟩ h
  · rewrite [← ep2, f_X3_refuel_c2] at h
    refine lv_astore_n (lv' := [(3, .ref (a (17 + p2.1))), (0, .ref (a 0)), (1, .int x1), (2, .int x2)]) hx hb dX3_refuel_5 rfl hl (by decide) rfl (fun ls hl => ?_)
    refine lv_iload_n hx hb dX3_refuel_6 rfl (lv_at hl 3 rfl) ?_
    refine lv_iconst (v := 1) hx hb dX3_refuel_7 (by decide) ?_
    refine lv_sipush (v := 1000) hx hb dX3_refuel_8 (by decide) ?_
    refine gcSz (wf := CW G.2 a) (N := 20) (ad := a) (As := [.int x2, .int 1, .int 1000]) (rest := []) (S := p2.2) ⟨hx, hb, hml, hown, hts⟩ hK hP hS (c_X3_isOutside l G a ha x2 1 1000 p2.2 _) (va_cwS 3 hts gX3_refuel_X3_isOutside rfl rfl rfl (by decide +kernel) ⟨Nat.le_of_ble_eq_true rfl, Nat.le_of_ble_eq_true rfl⟩) rfl hl.1 rfl (Nat.le_of_ble_eq_true rfl) dX3_refuel_11 ⟨Nat.le_of_ble_eq_true rfl, Nat.le_of_ble_eq_true rfl⟩ (fun p11 H locs ep11 hbp11 hP hS => ?_)
    rewrite [← ep11] at h
    rewrite [f_X3_refuel_c11] at h
    refine lv_if_eq (tgt := 27) hx hb dX3_refuel_14 (by decide) (fun c14 => ?_) (fun c14 => ?_)
    · rewrite [if_pos c14] at h
      refine lv_iload_n hx hb dX3_refuel_27 rfl (lv_at hl 3 rfl) ?_
      refine lv_aload_n hx hb dX3_refuel_28 rfl (lv_at hl 0 rfl) ?_
      refine cgG hx hb hw1 hown hK hP (i := p2.1) (by omega) 2 (by decide) (hts (.fieldLink RX3 103 "BackupPower$Generator" "tank" "I") (by decide +kernel)) dX3_refuel_29 ?_
      refine lv_aload_n hx hb dX3_refuel_32 rfl (lv_at hl 0 rfl) ?_
      refine cgG hx hb hw1 hown hK hP (i := p2.1) (by omega) 3 (by decide) (hts (.fieldLink RX3 106 "BackupPower$Generator" "fuel" "I") (by decide +kernel)) dX3_refuel_33 ?_
      refine lv_isub hx hb dX3_refuel_36 ?_
      refine va_mmin hx hb (hml.trans hl.1.symm) hown (hts (.methodLink RX3 109 Lib.Math.min.name) (by decide +kernel)) (hts (.static Lib.Math.min.name) (by decide +kernel)) (hts (.initialized "java/lang/Math") (by decide +kernel)) (hts (.code Lib.Math.min.name Lib.Math.min.code 2 (some .int)) (by decide +kernel)) (Nat.le_of_ble_eq_true rfl) (Nat.le_of_ble_eq_true rfl) (Nat.le_of_ble_eq_true rfl) (Nat.le_of_ble_eq_true rfl) dX3_refuel_37 ?_
      refine lv_istore (lv' := [(4, .int (if (p11.2.2.2.2 p2.1 2) - (p11.2.2.2.2 p2.1 3) < x2 then (p11.2.2.2.2 p2.1 2) - (p11.2.2.2.2 p2.1 3) else x2)), (3, .ref (a (17 + p2.1))), (0, .ref (a 0)), (1, .int x1), (2, .int x2)]) hx hb dX3_refuel_40 hl (by decide) rfl (fun ls hl => ?_)
      refine lv_aload_n hx hb dX3_refuel_42 rfl (lv_at hl 1 rfl) ?_
      refine lv_dup hx hb dX3_refuel_43 rfl ?_
      refine cgG hx hb hw1 hown hK hP (i := p2.1) (by omega) 3 (by decide) (hts (.fieldLink RX3 106 "BackupPower$Generator" "fuel" "I") (by decide +kernel)) dX3_refuel_44 ?_
      refine lv_iload hx hb dX3_refuel_47 (lv_at hl 0 rfl) ?_
      refine lv_iadd hx hb dX3_refuel_49 ?_
      refine cpG hx hb hw1 hown hK ha hP hS (i := p2.1) (by omega) 3 (by decide) rfl okI (hts (.fieldLink RX3 106 "BackupPower$Generator" "fuel" "I") (by decide +kernel)) dX3_refuel_50 (fun H locs hP hS => ?_)
      refine lv_iload hx hb dX3_refuel_53 (lv_at hl 0 rfl) ?_
      refine W.widen (k := 2) (n := 12) (Nat.le_of_ble_eq_true rfl) (Nat.le_of_ble_eq_true rfl) ?_
      exact gxRi (wf := CW G.2 a) (S := (cuG p11.2 p2.1 3 ((p11.2.2.2.2 p2.1 3) + (if (p11.2.2.2.2 p2.1 2) - (p11.2.2.2.2 p2.1 3) < x2 then (p11.2.2.2.2 p2.1 2) - (p11.2.2.2.2 p2.1 3) else x2)))) hx hb hr hlocks hP hS h dX3_refuel_55
    · rewrite [if_neg c14] at h
      exact gxT (wf := CW G.2 a) (N := 20) (ad := a) (u := 0) (S := p11.2) hx hb hst hown hlocks htab hexc hP hS (hl.1.trans hml.symm) (ik := 50) (is := 101) (ic := 54) (text := "units is out of range") (by decide) (hts (.classLink RX3 50 "java/lang/IllegalArgumentException") (by decide +kernel)) (hts (.initialized "java/lang/IllegalArgumentException") (by decide +kernel)) (fun w hw => hts w ((by decide +kernel : ∀ w ∈ (vx_atS RX3 54 (exN 0) exS).filter goodWord, w ∈ wsX3_refuel) w hw)) (by decide +kernel) (by decide +kernel) (by decide +kernel) dX3_refuel_17 dX3_refuel_20 dX3_refuel_21 dX3_refuel_23 dX3_refuel_26 (by decide) h

def f_X3_setFailures_c9 (x1 : Int32) (x2 : Int32) (p2 : Nat × CS) (p9 : Int32 × CS) : (Int32 × CS) ⊕ (Nat × CS) := (if p9.1 = 0 then (Sum.inl (p9.2.2.2.2 p2.1 9, (cuG p9.2 p2.1 9 x2))) else (Sum.inr (0, p9.2)))
def f_X3_setFailures_c2 (x1 : Int32) (x2 : Int32) : (Nat × CS) ⊕ (Nat × CS) → (Int32 × CS) ⊕ (Nat × CS)
  | Sum.inl p2 => (f_X3_setFailures_c9 x1 x2 p2 (f_X3_isOutside x2 0 5 p2.2))
  | Sum.inr p2 => Sum.inr p2
def f_X3_setFailures (x1 : Int32) (x2 : Int32) (S : CS) : (Int32 × CS) ⊕ (Nat × CS) := (f_X3_setFailures_c2 x1 x2 (f_X3_findGenerator x1 S))
set_option maxHeartbeats 4000000 in
set_option maxRecDepth 100000 in
theorem c_X3_setFailures (l : Launch) (G : WG) (a : Nat → Nat) (ha : wInj 20 a) (hst : l.stackTraces = false) (x1 : Int32) (x2 : Int32) (S : CS) (hc3 : ∃ N, N ≤ 3 ∧ S.1 5 = nI N) (sz : Nat) : gxMi l yX3_setFailures wsX3_setFailures ({ frames := 7, cells := 2, slots := 12, locals := 111 }) 2 12 G 20 a (CW G.2 a) [.ref (a 0), .int x1, .int x2] S sz (f_X3_setFailures x1 x2 S) := by
  unfold gxMi
  refine vx_ofW (cc := cX3_setFailures) (maxL := 5) (ret := (some .int)) (by decide) rfl ?_
  intro p e s m args below meth c s₁ B hml htab hv
  obtain ⟨rfl, rfl, hP, hK, hexc⟩ := hv
  have hx := B.exec
  have hb := B.bytes
  have hr := B.returns
  have hts := atoms_spec (ws := wsX3_setFailures) B.pre
  have hown : s.vm.findClass RX3 = some m.cls := findClass_of_methodNamed B.named
  have hlocks := B.notSynchronized
  have hS : va_S (wA 20 a s.heap.size) s.heap s.heap [] := va_S.rf
  have hw1 : ∀ w ∈ wsX10, w.before ([.ref (a 0), .int x1, .int x2] : List Value).toArray s = true := fun w hw => hts w ((by decide +kernel : ∀ w ∈ wsX10, w ∈ wsX3_setFailures) w hw)
  have hl := lv_entry ([.ref (a 0), .int x1, .int x2]) (n := 5) (Nat.le_of_ble_eq_true rfl)
  rw [lg_entry_eq]
  generalize (lg_sl ([.ref (a 0), .int x1, .int x2] : List Value) ++ List.replicate (5 - (lg_sl ([.ref (a 0), .int x1, .int x2] : List Value)).length) Slot.unset).toArray = ls at hl ⊢
  have hl : lv_has ls 5 [(0, .ref (a 0)), (1, .int x1), (2, .int x2)] := hl
  generalize hF : f_X3_setFailures x1 x2 S = F
  have h : f_X3_setFailures x1 x2 S = F := hF
  clear hF
  show W p l e ({ frames := 7, cells := 2, slots := 12, locals := 111 } : Room) s m ([.ref (a 0), .int x1, .int x2] : List Value).toArray below meth c s.heap [] 0 0 (gxQi below 2 12 G (CW G.2 a) 20 a F ([.ref (a 0), .int x1, .int x2] : List Value).toArray s) (F0 m 0 ls [])
  rewrite [f_X3_setFailures] at h
  refine lv_aload_n hx hb dX3_setFailures_0 rfl (lv_at hl 0 rfl) ?_
  refine lv_iload_n hx hb dX3_setFailures_1 rfl (lv_at hl 1 rfl) ?_
  refine gxcVr (wf := CW G.2 a) (N := 20) (ad := a) (fo := fun j => a (17 + j)) (B9 := 3) (As := [.int x1]) (rest := []) (S := S) hexc ⟨hx, hb, hml, hown, hts⟩ hK hP hS (c_X3_findGenerator l G a ha hst x1 S hc3 _) (cwV 1 hts gX3_setFailures_X3_findGenerator rfl rfl rfl (by decide +kernel) ⟨Nat.le_of_ble_eq_true rfl, Nat.le_of_ble_eq_true rfl⟩) (crM hK hP) rfl hl.1 rfl (Nat.le_of_ble_eq_true rfl) dX3_setFailures_2 ⟨Nat.le_of_ble_eq_true rfl, Nat.le_of_ble_eq_true rfl⟩ (fun p2 ce q9 H locs ep2 hP hS hce hcv hcl => ?_) (fun p2 H locs ep2 hjp2 hP hS => ?_)
  · rewrite [← ep2, f_X3_setFailures_c2] at h
    exact gxO (S := p2.2) (u := p2.1) hlocks htab hP hS hce hcv hcl ⟨Nat.le_of_ble_eq_true rfl, Nat.le_of_ble_eq_true rfl⟩ h
  · rewrite [← ep2, f_X3_setFailures_c2] at h
    refine lv_astore_n (lv' := [(3, .ref (a (17 + p2.1))), (0, .ref (a 0)), (1, .int x1), (2, .int x2)]) hx hb dX3_setFailures_5 rfl hl (by decide) rfl (fun ls hl => ?_)
    refine lv_iload_n hx hb dX3_setFailures_6 rfl (lv_at hl 3 rfl) ?_
    refine lv_iconst (v := 0) hx hb dX3_setFailures_7 (by decide) ?_
    refine lv_iconst (v := 5) hx hb dX3_setFailures_8 (by decide) ?_
    refine gcSz (wf := CW G.2 a) (N := 20) (ad := a) (As := [.int x2, .int 0, .int 5]) (rest := []) (S := p2.2) ⟨hx, hb, hml, hown, hts⟩ hK hP hS (c_X3_isOutside l G a ha x2 0 5 p2.2 _) (va_cwS 3 hts gX3_setFailures_X3_isOutside rfl rfl rfl (by decide +kernel) ⟨Nat.le_of_ble_eq_true rfl, Nat.le_of_ble_eq_true rfl⟩) rfl hl.1 rfl (Nat.le_of_ble_eq_true rfl) dX3_setFailures_9 ⟨Nat.le_of_ble_eq_true rfl, Nat.le_of_ble_eq_true rfl⟩ (fun p9 H locs ep9 hbp9 hP hS => ?_)
    rewrite [← ep9] at h
    rewrite [f_X3_setFailures_c9] at h
    refine lv_if_eq (tgt := 25) hx hb dX3_setFailures_12 (by decide) (fun c12 => ?_) (fun c12 => ?_)
    · rewrite [if_pos c12] at h
      refine lv_aload_n hx hb dX3_setFailures_25 rfl (lv_at hl 0 rfl) ?_
      refine cgG hx hb hw1 hown hK hP (i := p2.1) (by omega) 9 (by decide) (hts (.fieldLink RX3 117 "BackupPower$Generator" "failuresToCome" "I") (by decide +kernel)) dX3_setFailures_26 ?_
      refine lv_istore (lv' := [(4, .int (p9.2.2.2.2 p2.1 9)), (3, .ref (a (17 + p2.1))), (0, .ref (a 0)), (1, .int x1), (2, .int x2)]) hx hb dX3_setFailures_29 hl (by decide) rfl (fun ls hl => ?_)
      refine lv_aload_n hx hb dX3_setFailures_31 rfl (lv_at hl 1 rfl) ?_
      refine lv_iload_n hx hb dX3_setFailures_32 rfl (lv_at hl 4 rfl) ?_
      refine cpG hx hb hw1 hown hK ha hP hS (i := p2.1) (by omega) 9 (by decide) rfl okI (hts (.fieldLink RX3 117 "BackupPower$Generator" "failuresToCome" "I") (by decide +kernel)) dX3_setFailures_33 (fun H locs hP hS => ?_)
      refine lv_iload hx hb dX3_setFailures_36 (lv_at hl 0 rfl) ?_
      refine W.widen (k := 2) (n := 12) (Nat.le_of_ble_eq_true rfl) (Nat.le_of_ble_eq_true rfl) ?_
      exact gxRi (wf := CW G.2 a) (S := (cuG p9.2 p2.1 9 x2)) hx hb hr hlocks hP hS h dX3_setFailures_38
    · rewrite [if_neg c12] at h
      exact gxT (wf := CW G.2 a) (N := 20) (ad := a) (u := 0) (S := p9.2) hx hb hst hown hlocks htab hexc hP hS (hl.1.trans hml.symm) (ik := 50) (is := 115) (ic := 54) (text := "failures is out of range") (by decide) (hts (.classLink RX3 50 "java/lang/IllegalArgumentException") (by decide +kernel)) (hts (.initialized "java/lang/IllegalArgumentException") (by decide +kernel)) (fun w hw => hts w ((by decide +kernel : ∀ w ∈ (vx_atS RX3 54 (exN 0) exS).filter goodWord, w ∈ wsX3_setFailures) w hw)) (by decide +kernel) (by decide +kernel) (by decide +kernel) dX3_setFailures_15 dX3_setFailures_18 dX3_setFailures_19 dX3_setFailures_21 dX3_setFailures_24 (by decide) h

def f_X3_setTests_b28 (x1 : Int32) (x2 : Int32) (x3 : Int32) (S28 : CS) : (Int32 × CS) ⊕ (Nat × CS) := (Sum.inr (0, S28))
def f_X3_setTests_c22 (x1 : Int32) (x2 : Int32) (x3 : Int32) (p2 : Nat × CS) (p22 : Int32 × CS) : (Int32 × CS) ⊕ (Nat × CS) := (if p22.1 = 0 then (Sum.inl (p22.2.2.2.2 p2.1 11, (cuG (cuG p22.2 p2.1 11 x2) p2.1 12 x3))) else (f_X3_setTests_b28 x1 x2 x3 p22.2))
def f_X3_setTests_c12 (x1 : Int32) (x2 : Int32) (x3 : Int32) (p2 : Nat × CS) (p12 : Int32 × CS) : (Int32 × CS) ⊕ (Nat × CS) := (if p12.1 = 0 then (f_X3_setTests_c22 x1 x2 x3 p2 (f_X3_isOutside x3 1 60 p12.2)) else (f_X3_setTests_b28 x1 x2 x3 p12.2))
def f_X3_setTests_c2 (x1 : Int32) (x2 : Int32) (x3 : Int32) : (Nat × CS) ⊕ (Nat × CS) → (Int32 × CS) ⊕ (Nat × CS)
  | Sum.inl p2 => (f_X3_setTests_c12 x1 x2 x3 p2 (f_X3_isOutside x2 0 10000 p2.2))
  | Sum.inr p2 => Sum.inr p2
def f_X3_setTests (x1 : Int32) (x2 : Int32) (x3 : Int32) (S : CS) : (Int32 × CS) ⊕ (Nat × CS) := (f_X3_setTests_c2 x1 x2 x3 (f_X3_findGenerator x1 S))
set_option maxHeartbeats 4000000 in
set_option maxRecDepth 100000 in
theorem c_X3_setTests (l : Launch) (G : WG) (a : Nat → Nat) (ha : wInj 20 a) (hst : l.stackTraces = false) (x1 : Int32) (x2 : Int32) (x3 : Int32) (S : CS) (hc3 : ∃ N, N ≤ 3 ∧ S.1 5 = nI N) (sz : Nat) : gxMi l yX3_setTests wsX3_setTests ({ frames := 7, cells := 2, slots := 12, locals := 111 }) 2 12 G 20 a (CW G.2 a) [.ref (a 0), .int x1, .int x2, .int x3] S sz (f_X3_setTests x1 x2 x3 S) := by
  unfold gxMi
  refine vx_ofW (cc := cX3_setTests) (maxL := 6) (ret := (some .int)) (by decide) rfl ?_
  intro p e s m args below meth c s₁ B hml htab hv
  obtain ⟨rfl, rfl, hP, hK, hexc⟩ := hv
  have hx := B.exec
  have hb := B.bytes
  have hr := B.returns
  have hts := atoms_spec (ws := wsX3_setTests) B.pre
  have hown : s.vm.findClass RX3 = some m.cls := findClass_of_methodNamed B.named
  have hlocks := B.notSynchronized
  have hS : va_S (wA 20 a s.heap.size) s.heap s.heap [] := va_S.rf
  have hw1 : ∀ w ∈ wsX10, w.before ([.ref (a 0), .int x1, .int x2, .int x3] : List Value).toArray s = true := fun w hw => hts w ((by decide +kernel : ∀ w ∈ wsX10, w ∈ wsX3_setTests) w hw)
  have hl := lv_entry ([.ref (a 0), .int x1, .int x2, .int x3]) (n := 6) (Nat.le_of_ble_eq_true rfl)
  rw [lg_entry_eq]
  generalize (lg_sl ([.ref (a 0), .int x1, .int x2, .int x3] : List Value) ++ List.replicate (6 - (lg_sl ([.ref (a 0), .int x1, .int x2, .int x3] : List Value)).length) Slot.unset).toArray = ls at hl ⊢
  have hl : lv_has ls 6 [(0, .ref (a 0)), (1, .int x1), (2, .int x2), (3, .int x3)] := hl
  generalize hF : f_X3_setTests x1 x2 x3 S = F
  have h : f_X3_setTests x1 x2 x3 S = F := hF
  clear hF
  show W p l e ({ frames := 7, cells := 2, slots := 12, locals := 111 } : Room) s m ([.ref (a 0), .int x1, .int x2, .int x3] : List Value).toArray below meth c s.heap [] 0 0 (gxQi below 2 12 G (CW G.2 a) 20 a F ([.ref (a 0), .int x1, .int x2, .int x3] : List Value).toArray s) (F0 m 0 ls [])
  have J28 : ∀ (S28 : CS), f_X3_setTests_b28 x1 x2 x3 S28 = F → ∀ (H : Heap) (locs : List Loc) (ls : Array Slot), wC G a S28 H → va_S (wA 20 a s.heap.size) s.heap H locs → lv_has ls 6 [] → W p l e ({ frames := 7, cells := 2, slots := 12, locals := 111 } : Room) s m ([.ref (a 0), .int x1, .int x2, .int x3] : List Value).toArray below meth c H locs 1 6 (gxQi below 2 12 G (CW G.2 a) 20 a F ([.ref (a 0), .int x1, .int x2, .int x3] : List Value).toArray s) (F0 m 28 ls []) := by
    intro S28 h H locs ls hP hS hl
    rewrite [f_X3_setTests_b28] at h
    exact gxT (wf := CW G.2 a) (N := 20) (ad := a) (u := 0) (S := S28) hx hb hst hown hlocks htab hexc hP hS (hl.1.trans hml.symm) (ik := 50) (is := 120) (ic := 54) (text := "period or minutes is out of range") (by decide) (hts (.classLink RX3 50 "java/lang/IllegalArgumentException") (by decide +kernel)) (hts (.initialized "java/lang/IllegalArgumentException") (by decide +kernel)) (fun w hw => hts w ((by decide +kernel : ∀ w ∈ (vx_atS RX3 54 (exN 0) exS).filter goodWord, w ∈ wsX3_setTests) w hw)) (by decide +kernel) (by decide +kernel) (by decide +kernel) dX3_setTests_28 dX3_setTests_31 dX3_setTests_32 dX3_setTests_34 dX3_setTests_37 (by decide) h
  rewrite [f_X3_setTests] at h
  refine lv_aload_n hx hb dX3_setTests_0 rfl (lv_at hl 0 rfl) ?_
  refine lv_iload_n hx hb dX3_setTests_1 rfl (lv_at hl 1 rfl) ?_
  refine gxcVr (wf := CW G.2 a) (N := 20) (ad := a) (fo := fun j => a (17 + j)) (B9 := 3) (As := [.int x1]) (rest := []) (S := S) hexc ⟨hx, hb, hml, hown, hts⟩ hK hP hS (c_X3_findGenerator l G a ha hst x1 S hc3 _) (cwV 1 hts gX3_setTests_X3_findGenerator rfl rfl rfl (by decide +kernel) ⟨Nat.le_of_ble_eq_true rfl, Nat.le_of_ble_eq_true rfl⟩) (crM hK hP) rfl hl.1 rfl (Nat.le_of_ble_eq_true rfl) dX3_setTests_2 ⟨Nat.le_of_ble_eq_true rfl, Nat.le_of_ble_eq_true rfl⟩ (fun p2 ce q9 H locs ep2 hP hS hce hcv hcl => ?_) (fun p2 H locs ep2 hjp2 hP hS => ?_)
  · rewrite [← ep2, f_X3_setTests_c2] at h
    exact gxO (S := p2.2) (u := p2.1) hlocks htab hP hS hce hcv hcl ⟨Nat.le_of_ble_eq_true rfl, Nat.le_of_ble_eq_true rfl⟩ h
  · rewrite [← ep2, f_X3_setTests_c2] at h
    refine lv_astore (lv' := [(4, .ref (a (17 + p2.1))), (0, .ref (a 0)), (1, .int x1), (2, .int x2), (3, .int x3)]) hx hb dX3_setTests_5 hl (by decide) rfl (fun ls hl => ?_)
    refine lv_iload_n hx hb dX3_setTests_7 rfl (lv_at hl 3 rfl) ?_
    refine lv_iconst (v := 0) hx hb dX3_setTests_8 (by decide) ?_
    refine lv_sipush (v := 10000) hx hb dX3_setTests_9 (by decide) ?_
    refine gcSz (wf := CW G.2 a) (N := 20) (ad := a) (As := [.int x2, .int 0, .int 10000]) (rest := []) (S := p2.2) ⟨hx, hb, hml, hown, hts⟩ hK hP hS (c_X3_isOutside l G a ha x2 0 10000 p2.2 _) (va_cwS 3 hts gX3_setTests_X3_isOutside rfl rfl rfl (by decide +kernel) ⟨Nat.le_of_ble_eq_true rfl, Nat.le_of_ble_eq_true rfl⟩) rfl hl.1 rfl (Nat.le_of_ble_eq_true rfl) dX3_setTests_12 ⟨Nat.le_of_ble_eq_true rfl, Nat.le_of_ble_eq_true rfl⟩ (fun p12 H locs ep12 hbp12 hP hS => ?_)
    rewrite [← ep12] at h
    rewrite [f_X3_setTests_c12] at h
    refine lv_if_ne (tgt := 28) hx hb dX3_setTests_15 (by decide) (fun c15 => ?_) (fun c15 => ?_)
    · rewrite [if_neg c15] at h
      exact J28 p12.2 h _ _ _ hP hS (lv_sub hl [] rfl)
    · rewrite [if_pos c15] at h
      refine lv_iload_n hx hb dX3_setTests_18 rfl (lv_at hl 4 rfl) ?_
      refine lv_iconst (v := 1) hx hb dX3_setTests_19 (by decide) ?_
      refine lv_bipush (v := 60) hx hb dX3_setTests_20 (by decide) ?_
      refine gcSz (wf := CW G.2 a) (N := 20) (ad := a) (As := [.int x3, .int 1, .int 60]) (rest := []) (S := p12.2) ⟨hx, hb, hml, hown, hts⟩ hK hP hS (c_X3_isOutside l G a ha x3 1 60 p12.2 _) (va_cwS 3 hts gX3_setTests_X3_isOutside rfl rfl rfl (by decide +kernel) ⟨Nat.le_of_ble_eq_true rfl, Nat.le_of_ble_eq_true rfl⟩) rfl hl.1 rfl (Nat.le_of_ble_eq_true rfl) dX3_setTests_22 ⟨Nat.le_of_ble_eq_true rfl, Nat.le_of_ble_eq_true rfl⟩ (fun p22 H locs ep22 hbp22 hP hS => ?_)
      rewrite [← ep22] at h
      rewrite [f_X3_setTests_c22] at h
      refine lv_if_eq (tgt := 38) hx hb dX3_setTests_25 (by decide) (fun c25 => ?_) (fun c25 => ?_)
      · rewrite [if_pos c25] at h
        refine lv_aload hx hb dX3_setTests_38 (lv_at hl 0 rfl) ?_
        refine cgG hx hb hw1 hown hK hP (i := p2.1) (by omega) 11 (by decide) (hts (.fieldLink RX3 122 "BackupPower$Generator" "testPeriod" "I") (by decide +kernel)) dX3_setTests_40 ?_
        refine lv_istore (lv' := [(5, .int (p22.2.2.2.2 p2.1 11)), (4, .ref (a (17 + p2.1))), (0, .ref (a 0)), (1, .int x1), (2, .int x2), (3, .int x3)]) hx hb dX3_setTests_43 hl (by decide) rfl (fun ls hl => ?_)
        refine lv_aload hx hb dX3_setTests_45 (lv_at hl 1 rfl) ?_
        refine lv_iload_n hx hb dX3_setTests_47 rfl (lv_at hl 4 rfl) ?_
        refine cpG hx hb hw1 hown hK ha hP hS (i := p2.1) (by omega) 11 (by decide) rfl okI (hts (.fieldLink RX3 122 "BackupPower$Generator" "testPeriod" "I") (by decide +kernel)) dX3_setTests_48 (fun H locs hP hS => ?_)
        refine lv_aload hx hb dX3_setTests_51 (lv_at hl 1 rfl) ?_
        refine lv_iload_n hx hb dX3_setTests_53 rfl (lv_at hl 5 rfl) ?_
        refine cpG hx hb hw1 hown hK ha hP hS (i := p2.1) (by omega) 12 (by decide) rfl okI (hts (.fieldLink RX3 125 "BackupPower$Generator" "testMinutes" "I") (by decide +kernel)) dX3_setTests_54 (fun H locs hP hS => ?_)
        refine lv_iload hx hb dX3_setTests_57 (lv_at hl 0 rfl) ?_
        refine W.widen (k := 2) (n := 12) (Nat.le_of_ble_eq_true rfl) (Nat.le_of_ble_eq_true rfl) ?_
        exact gxRi (wf := CW G.2 a) (S := (cuG (cuG p22.2 p2.1 11 x2) p2.1 12 x3)) hx hb hr hlocks hP hS h dX3_setTests_59
      · rewrite [if_neg c25] at h
        exact J28 p22.2 h _ _ _ hP hS (lv_sub hl [] rfl)

def f_X3_shedOrder_c3 (x1 : Int32) : (Nat × CS) ⊕ (Nat × CS) → (Int32 × CS) ⊕ (Nat × CS)
  | Sum.inl p3 => (Sum.inl (p3.2.2.1 p3.1 0, p3.2))
  | Sum.inr p3 => Sum.inr p3
def f_X3_shedOrder (x1 : Int32) (S : CS) : (Int32 × CS) ⊕ (Nat × CS) := (f_X3_shedOrder_c3 x1 (f_X3_findInOrder 1 x1 S))
set_option maxHeartbeats 4000000 in
set_option maxRecDepth 100000 in
theorem c_X3_shedOrder (l : Launch) (G : WG) (a : Nat → Nat) (ha : wInj 20 a) (hst : l.stackTraces = false) (x1 : Int32) (S : CS) (sz : Nat) : gxMi l yX3_shedOrder wsX3_shedOrder ({ frames := 7, cells := 1, slots := 6, locals := 116 }) 1 6 G 20 a (CW G.2 a) [.ref (a 0), .int x1] S sz (f_X3_shedOrder x1 S) := by
  unfold gxMi
  refine vx_ofW (cc := cX3_shedOrder) (maxL := 2) (ret := (some .int)) (by decide) rfl ?_
  intro p e s m args below meth c s₁ B hml htab hv
  obtain ⟨rfl, rfl, hP, hK, hexc⟩ := hv
  have hx := B.exec
  have hb := B.bytes
  have hr := B.returns
  have hts := atoms_spec (ws := wsX3_shedOrder) B.pre
  have hown : s.vm.findClass RX3 = some m.cls := findClass_of_methodNamed B.named
  have hlocks := B.notSynchronized
  have hS : va_S (wA 20 a s.heap.size) s.heap s.heap [] := va_S.rf
  have hw2 : ∀ w ∈ wsX20, w.before ([.ref (a 0), .int x1] : List Value).toArray s = true := fun w hw => hts w ((by decide +kernel : ∀ w ∈ wsX20, w ∈ wsX3_shedOrder) w hw)
  have hl := lv_entry ([.ref (a 0), .int x1]) (n := 2) (Nat.le_of_ble_eq_true rfl)
  rw [lg_entry_eq]
  generalize (lg_sl ([.ref (a 0), .int x1] : List Value) ++ List.replicate (2 - (lg_sl ([.ref (a 0), .int x1] : List Value)).length) Slot.unset).toArray = ls at hl ⊢
  have hl : lv_has ls 2 [(0, .ref (a 0)), (1, .int x1)] := hl
  generalize hF : f_X3_shedOrder x1 S = F
  have h : f_X3_shedOrder x1 S = F := hF
  clear hF
  show W p l e ({ frames := 7, cells := 1, slots := 6, locals := 116 } : Room) s m ([.ref (a 0), .int x1] : List Value).toArray below meth c s.heap [] 0 0 (gxQi below 1 6 G (CW G.2 a) 20 a F ([.ref (a 0), .int x1] : List Value).toArray s) (F0 m 0 ls [])
  rewrite [f_X3_shedOrder] at h
  refine lv_aload_n hx hb dX3_shedOrder_0 rfl (lv_at hl 0 rfl) ?_
  refine lv_iconst (v := 1) hx hb dX3_shedOrder_1 (by decide) ?_
  refine lv_iload_n hx hb dX3_shedOrder_2 rfl (lv_at hl 1 rfl) ?_
  refine gxcVr (wf := CW G.2 a) (N := 20) (ad := a) (fo := fun j => a (4 + j)) (B9 := 10) (As := [.int 1, .int x1]) (rest := []) (S := S) hexc ⟨hx, hb, hml, hown, hts⟩ hK hP hS (c_X3_findInOrder l G a ha hst 1 x1 S _) (cwV 2 hts gX3_shedOrder_X3_findInOrder rfl rfl rfl (by decide +kernel) ⟨Nat.le_of_ble_eq_true rfl, Nat.le_of_ble_eq_true rfl⟩) (crM hK hP) rfl hl.1 rfl (Nat.le_of_ble_eq_true rfl) dX3_shedOrder_3 ⟨Nat.le_of_ble_eq_true rfl, Nat.le_of_ble_eq_true rfl⟩ (fun p3 ce q9 H locs ep3 hP hS hce hcv hcl => ?_) (fun p3 H locs ep3 hjp3 hP hS => ?_)
  · rewrite [← ep3, f_X3_shedOrder_c3] at h
    exact gxO (S := p3.2) (u := p3.1) hlocks htab hP hS hce hcv hcl ⟨Nat.le_of_ble_eq_true rfl, Nat.le_of_ble_eq_true rfl⟩ h
  · rewrite [← ep3, f_X3_shedOrder_c3] at h
    refine cgL hx hb hw2 hown hK hP (i := p3.1) (by omega) 0 (by decide) (hts (.fieldLink RX3 146 "BackupPower$Load" "number" "I") (by decide +kernel)) dX3_shedOrder_6 ?_
    refine W.widen (k := 1) (n := 6) (Nat.le_of_ble_eq_true rfl) (Nat.le_of_ble_eq_true rfl) ?_
    exact gxRi (wf := CW G.2 a) (S := p3.2) hx hb hr hlocks hP hS h dX3_shedOrder_9

def f_X3_returnOrder_c3 (x1 : Int32) : (Nat × CS) ⊕ (Nat × CS) → (Int32 × CS) ⊕ (Nat × CS)
  | Sum.inl p3 => (Sum.inl (p3.2.2.1 p3.1 0, p3.2))
  | Sum.inr p3 => Sum.inr p3
def f_X3_returnOrder (x1 : Int32) (S : CS) : (Int32 × CS) ⊕ (Nat × CS) := (f_X3_returnOrder_c3 x1 (f_X3_findInOrder 2 x1 S))
set_option maxHeartbeats 4000000 in
set_option maxRecDepth 100000 in
theorem c_X3_returnOrder (l : Launch) (G : WG) (a : Nat → Nat) (ha : wInj 20 a) (hst : l.stackTraces = false) (x1 : Int32) (S : CS) (sz : Nat) : gxMi l yX3_returnOrder wsX3_returnOrder ({ frames := 7, cells := 1, slots := 6, locals := 116 }) 1 6 G 20 a (CW G.2 a) [.ref (a 0), .int x1] S sz (f_X3_returnOrder x1 S) := by
  unfold gxMi
  refine vx_ofW (cc := cX3_returnOrder) (maxL := 2) (ret := (some .int)) (by decide) rfl ?_
  intro p e s m args below meth c s₁ B hml htab hv
  obtain ⟨rfl, rfl, hP, hK, hexc⟩ := hv
  have hx := B.exec
  have hb := B.bytes
  have hr := B.returns
  have hts := atoms_spec (ws := wsX3_returnOrder) B.pre
  have hown : s.vm.findClass RX3 = some m.cls := findClass_of_methodNamed B.named
  have hlocks := B.notSynchronized
  have hS : va_S (wA 20 a s.heap.size) s.heap s.heap [] := va_S.rf
  have hw2 : ∀ w ∈ wsX20, w.before ([.ref (a 0), .int x1] : List Value).toArray s = true := fun w hw => hts w ((by decide +kernel : ∀ w ∈ wsX20, w ∈ wsX3_returnOrder) w hw)
  have hl := lv_entry ([.ref (a 0), .int x1]) (n := 2) (Nat.le_of_ble_eq_true rfl)
  rw [lg_entry_eq]
  generalize (lg_sl ([.ref (a 0), .int x1] : List Value) ++ List.replicate (2 - (lg_sl ([.ref (a 0), .int x1] : List Value)).length) Slot.unset).toArray = ls at hl ⊢
  have hl : lv_has ls 2 [(0, .ref (a 0)), (1, .int x1)] := hl
  generalize hF : f_X3_returnOrder x1 S = F
  have h : f_X3_returnOrder x1 S = F := hF
  clear hF
  show W p l e ({ frames := 7, cells := 1, slots := 6, locals := 116 } : Room) s m ([.ref (a 0), .int x1] : List Value).toArray below meth c s.heap [] 0 0 (gxQi below 1 6 G (CW G.2 a) 20 a F ([.ref (a 0), .int x1] : List Value).toArray s) (F0 m 0 ls [])
  rewrite [f_X3_returnOrder] at h
  refine lv_aload_n hx hb dX3_returnOrder_0 rfl (lv_at hl 0 rfl) ?_
  refine lv_iconst (v := 2) hx hb dX3_returnOrder_1 (by decide) ?_
  refine lv_iload_n hx hb dX3_returnOrder_2 rfl (lv_at hl 1 rfl) ?_
  refine gxcVr (wf := CW G.2 a) (N := 20) (ad := a) (fo := fun j => a (4 + j)) (B9 := 10) (As := [.int 2, .int x1]) (rest := []) (S := S) hexc ⟨hx, hb, hml, hown, hts⟩ hK hP hS (c_X3_findInOrder l G a ha hst 2 x1 S _) (cwV 2 hts gX3_returnOrder_X3_findInOrder rfl rfl rfl (by decide +kernel) ⟨Nat.le_of_ble_eq_true rfl, Nat.le_of_ble_eq_true rfl⟩) (crM hK hP) rfl hl.1 rfl (Nat.le_of_ble_eq_true rfl) dX3_returnOrder_3 ⟨Nat.le_of_ble_eq_true rfl, Nat.le_of_ble_eq_true rfl⟩ (fun p3 ce q9 H locs ep3 hP hS hce hcv hcl => ?_) (fun p3 H locs ep3 hjp3 hP hS => ?_)
  · rewrite [← ep3, f_X3_returnOrder_c3] at h
    exact gxO (S := p3.2) (u := p3.1) hlocks htab hP hS hce hcv hcl ⟨Nat.le_of_ble_eq_true rfl, Nat.le_of_ble_eq_true rfl⟩ h
  · rewrite [← ep3, f_X3_returnOrder_c3] at h
    refine cgL hx hb hw2 hown hK hP (i := p3.1) (by omega) 0 (by decide) (hts (.fieldLink RX3 146 "BackupPower$Load" "number" "I") (by decide +kernel)) dX3_returnOrder_6 ?_
    refine W.widen (k := 1) (n := 6) (Nat.le_of_ble_eq_true rfl) (Nat.le_of_ble_eq_true rfl) ?_
    exact gxRi (wf := CW G.2 a) (S := p3.2) hx hb hr hlocks hP hS h dX3_returnOrder_9

def f_X3_setTimes_b20 (x1 : Int32) (x2 : Int32) (S20 : CS) : (Int32 × CS) ⊕ (Nat × CS) := (Sum.inr (0, S20))
def f_X3_setTimes_c14 (x1 : Int32) (x2 : Int32) (p14 : Int32 × CS) : (Int32 × CS) ⊕ (Nat × CS) := (if p14.1 = 0 then (Sum.inl (p14.2.1 9, (cuM (cuM p14.2 9 x1) 10 x2))) else (f_X3_setTimes_b20 x1 x2 p14.2))
def f_X3_setTimes_c4 (x1 : Int32) (x2 : Int32) (p4 : Int32 × CS) : (Int32 × CS) ⊕ (Nat × CS) := (if p4.1 = 0 then (f_X3_setTimes_c14 x1 x2 (f_X3_isOutside x2 1 10 p4.2)) else (f_X3_setTimes_b20 x1 x2 p4.2))
def f_X3_setTimes (x1 : Int32) (x2 : Int32) (S : CS) : (Int32 × CS) ⊕ (Nat × CS) := (f_X3_setTimes_c4 x1 x2 (f_X3_isOutside x1 0 30 S))
set_option maxHeartbeats 4000000 in
set_option maxRecDepth 100000 in
theorem c_X3_setTimes (l : Launch) (G : WG) (a : Nat → Nat) (ha : wInj 20 a) (hst : l.stackTraces = false) (x1 : Int32) (x2 : Int32) (S : CS) (sz : Nat) : gxMi l yX3_setTimes wsX3_setTimes ({ frames := 6, cells := 1, slots := 6, locals := 90 }) 1 6 G 20 a (CW G.2 a) [.ref (a 0), .int x1, .int x2] S sz (f_X3_setTimes x1 x2 S) := by
  unfold gxMi
  refine vx_ofW (cc := cX3_setTimes) (maxL := 4) (ret := (some .int)) (by decide) rfl ?_
  intro p e s m args below meth c s₁ B hml htab hv
  obtain ⟨rfl, rfl, hP, hK, hexc⟩ := hv
  have hx := B.exec
  have hb := B.bytes
  have hr := B.returns
  have hts := atoms_spec (ws := wsX3_setTimes) B.pre
  have hown : s.vm.findClass RX3 = some m.cls := findClass_of_methodNamed B.named
  have hlocks := B.notSynchronized
  have hS : va_S (wA 20 a s.heap.size) s.heap s.heap [] := va_S.rf
  have hw3 : ∀ w ∈ wsX30, w.before ([.ref (a 0), .int x1, .int x2] : List Value).toArray s = true := fun w hw => hts w ((by decide +kernel : ∀ w ∈ wsX30, w ∈ wsX3_setTimes) w hw)
  have hl := lv_entry ([.ref (a 0), .int x1, .int x2]) (n := 4) (Nat.le_of_ble_eq_true rfl)
  rw [lg_entry_eq]
  generalize (lg_sl ([.ref (a 0), .int x1, .int x2] : List Value) ++ List.replicate (4 - (lg_sl ([.ref (a 0), .int x1, .int x2] : List Value)).length) Slot.unset).toArray = ls at hl ⊢
  have hl : lv_has ls 4 [(0, .ref (a 0)), (1, .int x1), (2, .int x2)] := hl
  generalize hF : f_X3_setTimes x1 x2 S = F
  have h : f_X3_setTimes x1 x2 S = F := hF
  clear hF
  show W p l e ({ frames := 6, cells := 1, slots := 6, locals := 90 } : Room) s m ([.ref (a 0), .int x1, .int x2] : List Value).toArray below meth c s.heap [] 0 0 (gxQi below 1 6 G (CW G.2 a) 20 a F ([.ref (a 0), .int x1, .int x2] : List Value).toArray s) (F0 m 0 ls [])
  have J20 : ∀ (S20 : CS), f_X3_setTimes_b20 x1 x2 S20 = F → ∀ (H : Heap) (locs : List Loc) (ls : Array Slot), wC G a S20 H → va_S (wA 20 a s.heap.size) s.heap H locs → lv_has ls 4 [] → W p l e ({ frames := 6, cells := 1, slots := 6, locals := 90 } : Room) s m ([.ref (a 0), .int x1, .int x2] : List Value).toArray below meth c H locs 0 0 (gxQi below 1 6 G (CW G.2 a) 20 a F ([.ref (a 0), .int x1, .int x2] : List Value).toArray s) (F0 m 20 ls []) := by
    intro S20 h H locs ls hP hS hl
    rewrite [f_X3_setTimes_b20] at h
    exact gxT (wf := CW G.2 a) (N := 20) (ad := a) (u := 0) (S := S20) hx hb hst hown hlocks htab hexc hP hS (hl.1.trans hml.symm) (ik := 50) (is := 128) (ic := 54) (text := "start or stagger is out of range") (by decide) (hts (.classLink RX3 50 "java/lang/IllegalArgumentException") (by decide +kernel)) (hts (.initialized "java/lang/IllegalArgumentException") (by decide +kernel)) (fun w hw => hts w ((by decide +kernel : ∀ w ∈ (vx_atS RX3 54 (exN 0) exS).filter goodWord, w ∈ wsX3_setTimes) w hw)) (by decide +kernel) (by decide +kernel) (by decide +kernel) dX3_setTimes_20 dX3_setTimes_23 dX3_setTimes_24 dX3_setTimes_26 dX3_setTimes_29 (by decide) h
  rewrite [f_X3_setTimes] at h
  refine lv_iload_n hx hb dX3_setTimes_0 rfl (lv_at hl 1 rfl) ?_
  refine lv_iconst (v := 0) hx hb dX3_setTimes_1 (by decide) ?_
  refine lv_bipush (v := 30) hx hb dX3_setTimes_2 (by decide) ?_
  refine gcSz (wf := CW G.2 a) (N := 20) (ad := a) (As := [.int x1, .int 0, .int 30]) (rest := []) (S := S) ⟨hx, hb, hml, hown, hts⟩ hK hP hS (c_X3_isOutside l G a ha x1 0 30 S _) (va_cwS 3 hts gX3_setTimes_X3_isOutside rfl rfl rfl (by decide +kernel) ⟨Nat.le_of_ble_eq_true rfl, Nat.le_of_ble_eq_true rfl⟩) rfl hl.1 rfl (Nat.le_of_ble_eq_true rfl) dX3_setTimes_4 ⟨Nat.le_of_ble_eq_true rfl, Nat.le_of_ble_eq_true rfl⟩ (fun p4 H locs ep4 hbp4 hP hS => ?_)
  rewrite [← ep4] at h
  rewrite [f_X3_setTimes_c4] at h
  refine lv_if_ne (tgt := 20) hx hb dX3_setTimes_7 (by decide) (fun c7 => ?_) (fun c7 => ?_)
  · rewrite [if_neg c7] at h
    exact J20 p4.2 h _ _ _ hP hS (lv_sub hl [] rfl)
  · rewrite [if_pos c7] at h
    refine lv_iload_n hx hb dX3_setTimes_10 rfl (lv_at hl 2 rfl) ?_
    refine lv_iconst (v := 1) hx hb dX3_setTimes_11 (by decide) ?_
    refine lv_bipush (v := 10) hx hb dX3_setTimes_12 (by decide) ?_
    refine gcSz (wf := CW G.2 a) (N := 20) (ad := a) (As := [.int x2, .int 1, .int 10]) (rest := []) (S := p4.2) ⟨hx, hb, hml, hown, hts⟩ hK hP hS (c_X3_isOutside l G a ha x2 1 10 p4.2 _) (va_cwS 3 hts gX3_setTimes_X3_isOutside rfl rfl rfl (by decide +kernel) ⟨Nat.le_of_ble_eq_true rfl, Nat.le_of_ble_eq_true rfl⟩) rfl hl.1 rfl (Nat.le_of_ble_eq_true rfl) dX3_setTimes_14 ⟨Nat.le_of_ble_eq_true rfl, Nat.le_of_ble_eq_true rfl⟩ (fun p14 H locs ep14 hbp14 hP hS => ?_)
    rewrite [← ep14] at h
    rewrite [f_X3_setTimes_c14] at h
    refine lv_if_eq (tgt := 30) hx hb dX3_setTimes_17 (by decide) (fun c17 => ?_) (fun c17 => ?_)
    · rewrite [if_pos c17] at h
      refine lv_aload_n hx hb dX3_setTimes_30 rfl (lv_at hl 0 rfl) ?_
      refine cgM hx hb hw3 hown hK hP 9 (by decide) (v := .int (p14.2.1 9)) rfl (hts (.fieldLink RX3 31 "BackupPower" "startTime" "I") (by decide +kernel)) dX3_setTimes_31 ?_
      refine lv_istore_n (lv' := [(3, .int (p14.2.1 9)), (0, .ref (a 0)), (1, .int x1), (2, .int x2)]) hx hb dX3_setTimes_34 rfl hl (by decide) rfl (fun ls hl => ?_)
      refine lv_aload_n hx hb dX3_setTimes_35 rfl (lv_at hl 1 rfl) ?_
      refine lv_iload_n hx hb dX3_setTimes_36 rfl (lv_at hl 2 rfl) ?_
      refine cpM hx hb hw3 hown hK ha hP hS 9 (by decide) (by decide) rfl okI (hts (.fieldLink RX3 31 "BackupPower" "startTime" "I") (by decide +kernel)) dX3_setTimes_37 (fun H locs hP hS => ?_)
      refine lv_aload_n hx hb dX3_setTimes_40 rfl (lv_at hl 1 rfl) ?_
      refine lv_iload_n hx hb dX3_setTimes_41 rfl (lv_at hl 3 rfl) ?_
      refine cpM hx hb hw3 hown hK ha hP hS 10 (by decide) (by decide) rfl okI (hts (.fieldLink RX3 35 "BackupPower" "staggerTime" "I") (by decide +kernel)) dX3_setTimes_42 (fun H locs hP hS => ?_)
      refine lv_iload_n hx hb dX3_setTimes_45 rfl (lv_at hl 0 rfl) ?_
      refine W.widen (k := 1) (n := 6) (Nat.le_of_ble_eq_true rfl) (Nat.le_of_ble_eq_true rfl) ?_
      exact gxRi (wf := CW G.2 a) (S := (cuM (cuM p14.2 9 x1) 10 x2)) hx hb hr hlocks hP hS h dX3_setTimes_46
    · rewrite [if_neg c17] at h
      exact J20 p14.2 h _ _ _ hP hS (lv_sub hl [] rfl)

def f_X3_addLoad_b20 (x1 : Int32) (x2 : Int32) (S20 : CS) : (Int32 × CS) ⊕ (Nat × CS) := (Sum.inr (0, S20))
def f_X3_addLoad_c75 (x1 : Int32) (x2 : Int32) (p75 : CS) : (Int32 × CS) ⊕ (Nat × CS) := (Sum.inl (((cuM p75 3 ((p75.1 3) + 1)).1 3) - 1, (cuM p75 3 ((p75.1 3) + 1))))
def f_X3_addLoad_b75 (x1 : Int32) (x2 : Int32) (S75 : CS) (s0_75 : Nat) (s3_75 : Int32) : (Int32 × CS) ⊕ (Nat × CS) := (f_X3_addLoad_c75 x1 x2 (f_X2_install s0_75 x1 x2 s3_75 S75))
def f_X3_addLoad_c14 (x1 : Int32) (x2 : Int32) (p14 : Int32 × CS) : (Int32 × CS) ⊕ (Nat × CS) := (if p14.1 = 0 then (if (p14.2.1 3) < (nI 10) then (if (p14.2.1 6) = 0 then (f_X3_addLoad_b75 x1 x2 p14.2 ((p14.2.1 3).toNatClampNeg) 2) else (f_X3_addLoad_b75 x1 x2 p14.2 ((p14.2.1 3).toNatClampNeg) 1)) else (Sum.inr (1, p14.2))) else (f_X3_addLoad_b20 x1 x2 p14.2))
def f_X3_addLoad_c3 (x1 : Int32) (x2 : Int32) (p3 : Int32 × CS) : (Int32 × CS) ⊕ (Nat × CS) := (if p3.1 = 0 then (f_X3_addLoad_c14 x1 x2 (f_X3_isOutside x2 1 500 p3.2)) else (f_X3_addLoad_b20 x1 x2 p3.2))
def f_X3_addLoad (x1 : Int32) (x2 : Int32) (S : CS) : (Int32 × CS) ⊕ (Nat × CS) := (f_X3_addLoad_c3 x1 x2 (f_X3_isOutside x1 1 5 S))
set_option maxHeartbeats 4000000 in
set_option maxRecDepth 100000 in
theorem c_X3_addLoad (l : Launch) (G : WG) (a : Nat → Nat) (ha : wInj 20 a) (hst : l.stackTraces = false) (x1 : Int32) (x2 : Int32) (S : CS) (hc3 : ∃ N, N ≤ 10 ∧ S.1 3 = nI N) (sz : Nat) : gxMi l yX3_addLoad wsX3_addLoad ({ frames := 6, cells := 1, slots := 6, locals := 90 }) 1 6 G 20 a (CW G.2 a) [.ref (a 0), .int x1, .int x2] S sz (f_X3_addLoad x1 x2 S) := by
  unfold gxMi
  refine vx_ofW (cc := cX3_addLoad) (maxL := 3) (ret := (some .int)) (by decide) rfl ?_
  intro p e s m args below meth c s₁ B hml htab hv
  obtain ⟨rfl, rfl, hP, hK, hexc⟩ := hv
  have hx := B.exec
  have hb := B.bytes
  have hr := B.returns
  have hts := atoms_spec (ws := wsX3_addLoad) B.pre
  have hown : s.vm.findClass RX3 = some m.cls := findClass_of_methodNamed B.named
  have hlocks := B.notSynchronized
  have hS : va_S (wA 20 a s.heap.size) s.heap s.heap [] := va_S.rf
  have hw3 : ∀ w ∈ wsX30, w.before ([.ref (a 0), .int x1, .int x2] : List Value).toArray s = true := fun w hw => hts w ((by decide +kernel : ∀ w ∈ wsX30, w ∈ wsX3_addLoad) w hw)
  have hl := lv_entry ([.ref (a 0), .int x1, .int x2]) (n := 3) (Nat.le_of_ble_eq_true rfl)
  rw [lg_entry_eq]
  generalize (lg_sl ([.ref (a 0), .int x1, .int x2] : List Value) ++ List.replicate (3 - (lg_sl ([.ref (a 0), .int x1, .int x2] : List Value)).length) Slot.unset).toArray = ls at hl ⊢
  have hl : lv_has ls 3 [(0, .ref (a 0)), (1, .int x1), (2, .int x2)] := hl
  generalize hF : f_X3_addLoad x1 x2 S = F
  have h : f_X3_addLoad x1 x2 S = F := hF
  clear hF
  show W p l e ({ frames := 6, cells := 1, slots := 6, locals := 90 } : Room) s m ([.ref (a 0), .int x1, .int x2] : List Value).toArray below meth c s.heap [] 0 0 (gxQi below 1 6 G (CW G.2 a) 20 a F ([.ref (a 0), .int x1, .int x2] : List Value).toArray s) (F0 m 0 ls [])
  have J20 : ∀ (S20 : CS), f_X3_addLoad_b20 x1 x2 S20 = F → ∀ (H : Heap) (locs : List Loc) (ls : Array Slot), wC G a S20 H → va_S (wA 20 a s.heap.size) s.heap H locs → lv_has ls 3 [] → W p l e ({ frames := 6, cells := 1, slots := 6, locals := 90 } : Room) s m ([.ref (a 0), .int x1, .int x2] : List Value).toArray below meth c H locs 0 0 (gxQi below 1 6 G (CW G.2 a) 20 a F ([.ref (a 0), .int x1, .int x2] : List Value).toArray s) (F0 m 20 ls []) := by
    intro S20 h H locs ls hP hS hl
    rewrite [f_X3_addLoad_b20] at h
    exact gxT (wf := CW G.2 a) (N := 20) (ad := a) (u := 0) (S := S20) hx hb hst hown hlocks htab hexc hP hS (hl.1.trans hml.symm) (ik := 50) (is := 52) (ic := 54) (text := "rank or power is out of range") (by decide) (hts (.classLink RX3 50 "java/lang/IllegalArgumentException") (by decide +kernel)) (hts (.initialized "java/lang/IllegalArgumentException") (by decide +kernel)) (fun w hw => hts w ((by decide +kernel : ∀ w ∈ (vx_atS RX3 54 (exN 0) exS).filter goodWord, w ∈ wsX3_addLoad) w hw)) (by decide +kernel) (by decide +kernel) (by decide +kernel) dX3_addLoad_20 dX3_addLoad_23 dX3_addLoad_24 dX3_addLoad_26 dX3_addLoad_29 (by decide) h
  have J75 : ∀ (S75 : CS) (s0_75 : Nat) (s3_75 : Int32), (s0_75 < 10) → f_X3_addLoad_b75 x1 x2 S75 s0_75 s3_75 = F → ∀ (H : Heap) (locs : List Loc) (ls : Array Slot), wC G a S75 H → va_S (wA 20 a s.heap.size) s.heap H locs → lv_has ls 3 [(0, .ref (a 0))] → W p l e ({ frames := 6, cells := 1, slots := 6, locals := 90 } : Room) s m ([.ref (a 0), .int x1, .int x2] : List Value).toArray below meth c H locs 0 0 (gxQi below 1 6 G (CW G.2 a) 20 a F ([.ref (a 0), .int x1, .int x2] : List Value).toArray s) (F0 m 75 ls [.int s3_75, .int x2, .int x1, .ref (a (4 + s0_75))]) := by
    intro S75 s0_75 s3_75 hs0_75 h H locs ls hP hS hl
    rewrite [f_X3_addLoad_b75] at h
    refine gcVv (wf := CW G.2 a) (N := 20) (ad := a) (As := [.int x1, .int x2, .int s3_75]) (rest := []) (S := S75) ⟨hx, hb, hml, hown, hts⟩ hK hP hS (c_X2_install l G a ha s0_75 (by omega) x1 x2 s3_75 S75 _) (cwV 3 hts gX3_addLoad_X2_install rfl rfl rfl (by decide +kernel) ⟨Nat.le_of_ble_eq_true rfl, Nat.le_of_ble_eq_true rfl⟩) (crL hK hP (i := s0_75) (by omega)) rfl hl.1 rfl (Nat.le_of_ble_eq_true rfl) dX3_addLoad_75 ⟨Nat.le_of_ble_eq_true rfl, Nat.le_of_ble_eq_true rfl⟩ (fun p75 H locs ep75 hP hS => ?_)
    rewrite [← ep75] at h
    rewrite [f_X3_addLoad_c75] at h
    refine lv_aload_n hx hb dX3_addLoad_78 rfl (lv_at hl 0 rfl) ?_
    refine lv_dup hx hb dX3_addLoad_79 rfl ?_
    refine cgM hx hb hw3 hown hK hP 3 (by decide) (v := .int (p75.1 3)) rfl (hts (.fieldLink RX3 57 "BackupPower" "loadCount" "I") (by decide +kernel)) dX3_addLoad_80 ?_
    refine lv_iconst (v := 1) hx hb dX3_addLoad_83 (by decide) ?_
    refine lv_iadd hx hb dX3_addLoad_84 ?_
    refine cpM hx hb hw3 hown hK ha hP hS 3 (by decide) (by decide) rfl okI (hts (.fieldLink RX3 57 "BackupPower" "loadCount" "I") (by decide +kernel)) dX3_addLoad_85 (fun H locs hP hS => ?_)
    refine lv_aload_n hx hb dX3_addLoad_88 rfl (lv_at hl 0 rfl) ?_
    refine cgM hx hb hw3 hown hK hP 3 (by decide) (v := .int ((cuM p75 3 ((p75.1 3) + 1)).1 3)) rfl (hts (.fieldLink RX3 57 "BackupPower" "loadCount" "I") (by decide +kernel)) dX3_addLoad_89 ?_
    refine lv_iconst (v := 1) hx hb dX3_addLoad_92 (by decide) ?_
    refine lv_isub hx hb dX3_addLoad_93 ?_
    refine W.widen (k := 1) (n := 6) (Nat.le_of_ble_eq_true rfl) (Nat.le_of_ble_eq_true rfl) ?_
    exact gxRi (wf := CW G.2 a) (S := (cuM p75 3 ((p75.1 3) + 1))) hx hb hr hlocks hP hS h dX3_addLoad_94
  rewrite [f_X3_addLoad] at h
  refine lv_iload_n hx hb dX3_addLoad_0 rfl (lv_at hl 1 rfl) ?_
  refine lv_iconst (v := 1) hx hb dX3_addLoad_1 (by decide) ?_
  refine lv_iconst (v := 5) hx hb dX3_addLoad_2 (by decide) ?_
  refine gcSz (wf := CW G.2 a) (N := 20) (ad := a) (As := [.int x1, .int 1, .int 5]) (rest := []) (S := S) ⟨hx, hb, hml, hown, hts⟩ hK hP hS (c_X3_isOutside l G a ha x1 1 5 S _) (va_cwS 3 hts gX3_addLoad_X3_isOutside rfl rfl rfl (by decide +kernel) ⟨Nat.le_of_ble_eq_true rfl, Nat.le_of_ble_eq_true rfl⟩) rfl hl.1 rfl (Nat.le_of_ble_eq_true rfl) dX3_addLoad_3 ⟨Nat.le_of_ble_eq_true rfl, Nat.le_of_ble_eq_true rfl⟩ (fun p3 H locs ep3 hbp3 hP hS => ?_)
  rewrite [← ep3] at h
  rewrite [f_X3_addLoad_c3] at h
  refine lv_if_ne (tgt := 20) hx hb dX3_addLoad_6 (by decide) (fun c6 => ?_) (fun c6 => ?_)
  · rewrite [if_neg c6] at h
    exact J20 p3.2 h _ _ _ hP hS (lv_sub hl [] rfl)
  · rewrite [if_pos c6] at h
    refine lv_iload_n hx hb dX3_addLoad_9 rfl (lv_at hl 2 rfl) ?_
    refine lv_iconst (v := 1) hx hb dX3_addLoad_10 (by decide) ?_
    refine lv_sipush (v := 500) hx hb dX3_addLoad_11 (by decide) ?_
    refine gcSz (wf := CW G.2 a) (N := 20) (ad := a) (As := [.int x2, .int 1, .int 500]) (rest := []) (S := p3.2) ⟨hx, hb, hml, hown, hts⟩ hK hP hS (c_X3_isOutside l G a ha x2 1 500 p3.2 _) (va_cwS 3 hts gX3_addLoad_X3_isOutside rfl rfl rfl (by decide +kernel) ⟨Nat.le_of_ble_eq_true rfl, Nat.le_of_ble_eq_true rfl⟩) rfl hl.1 rfl (Nat.le_of_ble_eq_true rfl) dX3_addLoad_14 ⟨Nat.le_of_ble_eq_true rfl, Nat.le_of_ble_eq_true rfl⟩ (fun p14 H locs ep14 hbp14 hP hS => ?_)
    rewrite [← ep14] at h
    rewrite [f_X3_addLoad_c14] at h
    refine lv_if_eq (tgt := 30) hx hb dX3_addLoad_17 (by decide) (fun c17 => ?_) (fun c17 => ?_)
    · rewrite [if_pos c17] at h
      refine lv_aload_n hx hb dX3_addLoad_30 rfl (lv_at hl 0 rfl) ?_
      refine cgM hx hb hw3 hown hK hP 3 (by decide) (v := .int (p14.2.1 3)) rfl (hts (.fieldLink RX3 57 "BackupPower" "loadCount" "I") (by decide +kernel)) dX3_addLoad_31 ?_
      refine lv_aload_n hx hb dX3_addLoad_34 rfl (lv_at hl 0 rfl) ?_
      refine cgM hx hb hw3 hown hK hP 0 (by decide) (v := .ref (a 1)) rfl (hts (.fieldLink RX3 11 "BackupPower" "loads" "[LBackupPower$Load;") (by decide +kernel)) dX3_addLoad_35 ?_
      refine clL hx hb hK hP dX3_addLoad_38 ?_
      refine lv_icmp_lt (tgt := 52) hx hb dX3_addLoad_39 (by decide) (fun c39 => ?_) (fun c39 => ?_)
      · rewrite [if_pos c39] at h
        refine lv_aload_n hx hb dX3_addLoad_52 rfl (lv_at hl 0 rfl) ?_
        refine cgM hx hb hw3 hown hK hP 0 (by decide) (v := .ref (a 1)) rfl (hts (.fieldLink RX3 11 "BackupPower" "loads" "[LBackupPower$Load;") (by decide +kernel)) dX3_addLoad_53 ?_
        refine lv_aload_n hx hb dX3_addLoad_56 rfl (lv_at hl 0 rfl) ?_
        refine cgM hx hb hw3 hown hK hP 3 (by decide) (v := .int (p14.2.1 3)) rfl (hts (.fieldLink RX3 57 "BackupPower" "loadCount" "I") (by decide +kernel)) dX3_addLoad_57 ?_
        have hix60 : vp_in (p14.2.1 3) 10 := (ix_add (by decide) hc3 (by rw [ep14, isO_2, ep3, isO_2]) c39)
        have hjx60 : (p14.2.1 3).toNatClampNeg < 10 := vp_lt hix60
        refine crdLI hx hb hK hP hix60 dX3_addLoad_60 ?_
        refine lv_iload_n hx hb dX3_addLoad_61 rfl (lv_at hl 1 rfl) ?_
        refine lv_iload_n hx hb dX3_addLoad_62 rfl (lv_at hl 2 rfl) ?_
        refine lv_aload_n hx hb dX3_addLoad_63 rfl (lv_at hl 0 rfl) ?_
        refine cgM hx hb hw3 hown hK hP 6 (by decide) (v := .int (p14.2.1 6)) rfl (hts (.fieldLink RX3 27 "BackupPower" "mainsUp" "Z") (by decide +kernel)) dX3_addLoad_64 ?_
        refine lv_if_eq (tgt := 74) hx hb dX3_addLoad_67 (by decide) (fun c67 => ?_) (fun c67 => ?_)
        · rewrite [if_pos c67] at h
          refine lv_iconst (v := 2) hx hb dX3_addLoad_74 (by decide) ?_
          exact J75 p14.2 ((p14.2.1 3).toNatClampNeg) 2 (by omega) h _ _ _ hP hS (lv_sub hl [0] rfl)
        · rewrite [if_neg c67] at h
          refine lv_iconst (v := 1) hx hb dX3_addLoad_70 (by decide) ?_
          refine lv_goto (tgt := 75) hx hb dX3_addLoad_71 (by decide) ?_
          exact J75 p14.2 ((p14.2.1 3).toNatClampNeg) 1 (by omega) h _ _ _ hP hS (lv_sub hl [0] rfl)
      · rewrite [if_neg c39] at h
        exact gxT (wf := CW G.2 a) (N := 20) (ad := a) (u := 1) (S := p14.2) hx hb hst hown hlocks htab hexc hP hS (hl.1.trans hml.symm) (ik := 60) (is := 62) (ic := 64) (text := "there are 10 loads") (by decide) (hts (.classLink RX3 60 "java/lang/IllegalStateException") (by decide +kernel)) (hts (.initialized "java/lang/IllegalStateException") (by decide +kernel)) (fun w hw => hts w ((by decide +kernel : ∀ w ∈ (vx_atS RX3 64 (exN 1) exS).filter goodWord, w ∈ wsX3_addLoad) w hw)) (by decide +kernel) (by decide +kernel) (by decide +kernel) dX3_addLoad_42 dX3_addLoad_45 dX3_addLoad_46 dX3_addLoad_48 dX3_addLoad_51 (by decide) h
    · rewrite [if_neg c17] at h
      exact J20 p14.2 h _ _ _ hP hS (lv_sub hl [] rfl)

def f_X3_addBattery_b33 (x1 : Int32) (x2 : Int32) (x3 : Int32) (S33 : CS) : (Int32 × CS) ⊕ (Nat × CS) := (Sum.inr (0, S33))
def f_X3_addBattery_c77 (x1 : Int32) (x2 : Int32) (x3 : Int32) (p77 : CS) : (Int32 × CS) ⊕ (Nat × CS) := (Sum.inl (((cuM p77 4 ((p77.1 4) + 1)).1 4) - 1, (cuM p77 4 ((p77.1 4) + 1))))
def f_X3_addBattery_c27 (x1 : Int32) (x2 : Int32) (x3 : Int32) (p27 : Int32 × CS) : (Int32 × CS) ⊕ (Nat × CS) := (if p27.1 = 0 then (if (p27.2.1 4) < (nI 3) then (f_X3_addBattery_c77 x1 x2 x3 (f_X0_install ((p27.2.1 4).toNatClampNeg) x1 x2 x3 p27.2)) else (Sum.inr (1, p27.2))) else (f_X3_addBattery_b33 x1 x2 x3 p27.2))
def f_X3_addBattery_c16 (x1 : Int32) (x2 : Int32) (x3 : Int32) (p16 : Int32 × CS) : (Int32 × CS) ⊕ (Nat × CS) := (if p16.1 = 0 then (f_X3_addBattery_c27 x1 x2 x3 (f_X3_isOutside x3 1 500 p16.2)) else (f_X3_addBattery_b33 x1 x2 x3 p16.2))
def f_X3_addBattery_c5 (x1 : Int32) (x2 : Int32) (x3 : Int32) (p5 : Int32 × CS) : (Int32 × CS) ⊕ (Nat × CS) := (if p5.1 = 0 then (f_X3_addBattery_c16 x1 x2 x3 (f_X3_isOutside x2 1 500 p5.2)) else (f_X3_addBattery_b33 x1 x2 x3 p5.2))
def f_X3_addBattery (x1 : Int32) (x2 : Int32) (x3 : Int32) (S : CS) : (Int32 × CS) ⊕ (Nat × CS) := (f_X3_addBattery_c5 x1 x2 x3 (f_X3_isOutside x1 1 20000 S))
set_option maxHeartbeats 4000000 in
set_option maxRecDepth 100000 in
theorem c_X3_addBattery (l : Launch) (G : WG) (a : Nat → Nat) (ha : wInj 20 a) (hst : l.stackTraces = false) (x1 : Int32) (x2 : Int32) (x3 : Int32) (S : CS) (hc3 : ∃ N, N ≤ 3 ∧ S.1 4 = nI N) (sz : Nat) : gxMi l yX3_addBattery wsX3_addBattery ({ frames := 6, cells := 1, slots := 6, locals := 90 }) 1 6 G 20 a (CW G.2 a) [.ref (a 0), .int x1, .int x2, .int x3] S sz (f_X3_addBattery x1 x2 x3 S) := by
  unfold gxMi
  refine vx_ofW (cc := cX3_addBattery) (maxL := 4) (ret := (some .int)) (by decide) rfl ?_
  intro p e s m args below meth c s₁ B hml htab hv
  obtain ⟨rfl, rfl, hP, hK, hexc⟩ := hv
  have hx := B.exec
  have hb := B.bytes
  have hr := B.returns
  have hts := atoms_spec (ws := wsX3_addBattery) B.pre
  have hown : s.vm.findClass RX3 = some m.cls := findClass_of_methodNamed B.named
  have hlocks := B.notSynchronized
  have hS : va_S (wA 20 a s.heap.size) s.heap s.heap [] := va_S.rf
  have hw3 : ∀ w ∈ wsX30, w.before ([.ref (a 0), .int x1, .int x2, .int x3] : List Value).toArray s = true := fun w hw => hts w ((by decide +kernel : ∀ w ∈ wsX30, w ∈ wsX3_addBattery) w hw)
  have hl := lv_entry ([.ref (a 0), .int x1, .int x2, .int x3]) (n := 4) (Nat.le_of_ble_eq_true rfl)
  rw [lg_entry_eq]
  generalize (lg_sl ([.ref (a 0), .int x1, .int x2, .int x3] : List Value) ++ List.replicate (4 - (lg_sl ([.ref (a 0), .int x1, .int x2, .int x3] : List Value)).length) Slot.unset).toArray = ls at hl ⊢
  have hl : lv_has ls 4 [(0, .ref (a 0)), (1, .int x1), (2, .int x2), (3, .int x3)] := hl
  generalize hF : f_X3_addBattery x1 x2 x3 S = F
  have h : f_X3_addBattery x1 x2 x3 S = F := hF
  clear hF
  show W p l e ({ frames := 6, cells := 1, slots := 6, locals := 90 } : Room) s m ([.ref (a 0), .int x1, .int x2, .int x3] : List Value).toArray below meth c s.heap [] 0 0 (gxQi below 1 6 G (CW G.2 a) 20 a F ([.ref (a 0), .int x1, .int x2, .int x3] : List Value).toArray s) (F0 m 0 ls [])
  have J33 : ∀ (S33 : CS), f_X3_addBattery_b33 x1 x2 x3 S33 = F → ∀ (H : Heap) (locs : List Loc) (ls : Array Slot), wC G a S33 H → va_S (wA 20 a s.heap.size) s.heap H locs → lv_has ls 4 [] → W p l e ({ frames := 6, cells := 1, slots := 6, locals := 90 } : Room) s m ([.ref (a 0), .int x1, .int x2, .int x3] : List Value).toArray below meth c H locs 0 0 (gxQi below 1 6 G (CW G.2 a) 20 a F ([.ref (a 0), .int x1, .int x2, .int x3] : List Value).toArray s) (F0 m 33 ls []) := by
    intro S33 h H locs ls hP hS hl
    rewrite [f_X3_addBattery_b33] at h
    exact gxT (wf := CW G.2 a) (N := 20) (ad := a) (u := 0) (S := S33) hx hb hst hown hlocks htab hexc hP hS (hl.1.trans hml.symm) (ik := 50) (is := 69) (ic := 54) (text := "capacity, rate or charging is out of range") (by decide) (hts (.classLink RX3 50 "java/lang/IllegalArgumentException") (by decide +kernel)) (hts (.initialized "java/lang/IllegalArgumentException") (by decide +kernel)) (fun w hw => hts w ((by decide +kernel : ∀ w ∈ (vx_atS RX3 54 (exN 0) exS).filter goodWord, w ∈ wsX3_addBattery) w hw)) (by decide +kernel) (by decide +kernel) (by decide +kernel) dX3_addBattery_33 dX3_addBattery_36 dX3_addBattery_37 dX3_addBattery_39 dX3_addBattery_42 (by decide) h
  rewrite [f_X3_addBattery] at h
  refine lv_iload_n hx hb dX3_addBattery_0 rfl (lv_at hl 1 rfl) ?_
  refine lv_iconst (v := 1) hx hb dX3_addBattery_1 (by decide) ?_
  refine lv_sipush (v := 20000) hx hb dX3_addBattery_2 (by decide) ?_
  refine gcSz (wf := CW G.2 a) (N := 20) (ad := a) (As := [.int x1, .int 1, .int 20000]) (rest := []) (S := S) ⟨hx, hb, hml, hown, hts⟩ hK hP hS (c_X3_isOutside l G a ha x1 1 20000 S _) (va_cwS 3 hts gX3_addBattery_X3_isOutside rfl rfl rfl (by decide +kernel) ⟨Nat.le_of_ble_eq_true rfl, Nat.le_of_ble_eq_true rfl⟩) rfl hl.1 rfl (Nat.le_of_ble_eq_true rfl) dX3_addBattery_5 ⟨Nat.le_of_ble_eq_true rfl, Nat.le_of_ble_eq_true rfl⟩ (fun p5 H locs ep5 hbp5 hP hS => ?_)
  rewrite [← ep5] at h
  rewrite [f_X3_addBattery_c5] at h
  refine lv_if_ne (tgt := 33) hx hb dX3_addBattery_8 (by decide) (fun c8 => ?_) (fun c8 => ?_)
  · rewrite [if_neg c8] at h
    exact J33 p5.2 h _ _ _ hP hS (lv_sub hl [] rfl)
  · rewrite [if_pos c8] at h
    refine lv_iload_n hx hb dX3_addBattery_11 rfl (lv_at hl 2 rfl) ?_
    refine lv_iconst (v := 1) hx hb dX3_addBattery_12 (by decide) ?_
    refine lv_sipush (v := 500) hx hb dX3_addBattery_13 (by decide) ?_
    refine gcSz (wf := CW G.2 a) (N := 20) (ad := a) (As := [.int x2, .int 1, .int 500]) (rest := []) (S := p5.2) ⟨hx, hb, hml, hown, hts⟩ hK hP hS (c_X3_isOutside l G a ha x2 1 500 p5.2 _) (va_cwS 3 hts gX3_addBattery_X3_isOutside rfl rfl rfl (by decide +kernel) ⟨Nat.le_of_ble_eq_true rfl, Nat.le_of_ble_eq_true rfl⟩) rfl hl.1 rfl (Nat.le_of_ble_eq_true rfl) dX3_addBattery_16 ⟨Nat.le_of_ble_eq_true rfl, Nat.le_of_ble_eq_true rfl⟩ (fun p16 H locs ep16 hbp16 hP hS => ?_)
    rewrite [← ep16] at h
    rewrite [f_X3_addBattery_c16] at h
    refine lv_if_ne (tgt := 33) hx hb dX3_addBattery_19 (by decide) (fun c19 => ?_) (fun c19 => ?_)
    · rewrite [if_neg c19] at h
      exact J33 p16.2 h _ _ _ hP hS (lv_sub hl [] rfl)
    · rewrite [if_pos c19] at h
      refine lv_iload_n hx hb dX3_addBattery_22 rfl (lv_at hl 3 rfl) ?_
      refine lv_iconst (v := 1) hx hb dX3_addBattery_23 (by decide) ?_
      refine lv_sipush (v := 500) hx hb dX3_addBattery_24 (by decide) ?_
      refine gcSz (wf := CW G.2 a) (N := 20) (ad := a) (As := [.int x3, .int 1, .int 500]) (rest := []) (S := p16.2) ⟨hx, hb, hml, hown, hts⟩ hK hP hS (c_X3_isOutside l G a ha x3 1 500 p16.2 _) (va_cwS 3 hts gX3_addBattery_X3_isOutside rfl rfl rfl (by decide +kernel) ⟨Nat.le_of_ble_eq_true rfl, Nat.le_of_ble_eq_true rfl⟩) rfl hl.1 rfl (Nat.le_of_ble_eq_true rfl) dX3_addBattery_27 ⟨Nat.le_of_ble_eq_true rfl, Nat.le_of_ble_eq_true rfl⟩ (fun p27 H locs ep27 hbp27 hP hS => ?_)
      rewrite [← ep27] at h
      rewrite [f_X3_addBattery_c27] at h
      refine lv_if_eq (tgt := 43) hx hb dX3_addBattery_30 (by decide) (fun c30 => ?_) (fun c30 => ?_)
      · rewrite [if_pos c30] at h
        refine lv_aload_n hx hb dX3_addBattery_43 rfl (lv_at hl 0 rfl) ?_
        refine cgM hx hb hw3 hown hK hP 4 (by decide) (v := .int (p27.2.1 4)) rfl (hts (.fieldLink RX3 71 "BackupPower" "batteryCount" "I") (by decide +kernel)) dX3_addBattery_44 ?_
        refine lv_aload_n hx hb dX3_addBattery_47 rfl (lv_at hl 0 rfl) ?_
        refine cgM hx hb hw3 hown hK hP 1 (by decide) (v := .ref (a 2)) rfl (hts (.fieldLink RX3 17 "BackupPower" "batteries" "[LBackupPower$Battery;") (by decide +kernel)) dX3_addBattery_48 ?_
        refine clB hx hb hK hP dX3_addBattery_51 ?_
        refine lv_icmp_lt (tgt := 65) hx hb dX3_addBattery_52 (by decide) (fun c52 => ?_) (fun c52 => ?_)
        · rewrite [if_pos c52] at h
          refine lv_aload_n hx hb dX3_addBattery_65 rfl (lv_at hl 0 rfl) ?_
          refine cgM hx hb hw3 hown hK hP 1 (by decide) (v := .ref (a 2)) rfl (hts (.fieldLink RX3 17 "BackupPower" "batteries" "[LBackupPower$Battery;") (by decide +kernel)) dX3_addBattery_66 ?_
          refine lv_aload_n hx hb dX3_addBattery_69 rfl (lv_at hl 0 rfl) ?_
          refine cgM hx hb hw3 hown hK hP 4 (by decide) (v := .int (p27.2.1 4)) rfl (hts (.fieldLink RX3 71 "BackupPower" "batteryCount" "I") (by decide +kernel)) dX3_addBattery_70 ?_
          have hix73 : vp_in (p27.2.1 4) 3 := (ix_add (by decide) hc3 (by rw [ep27, isO_2, ep16, isO_2, ep5, isO_2]) c52)
          have hjx73 : (p27.2.1 4).toNatClampNeg < 3 := vp_lt hix73
          refine crdBI hx hb hK hP hix73 dX3_addBattery_73 ?_
          refine lv_iload_n hx hb dX3_addBattery_74 rfl (lv_at hl 1 rfl) ?_
          refine lv_iload_n hx hb dX3_addBattery_75 rfl (lv_at hl 2 rfl) ?_
          refine lv_iload_n hx hb dX3_addBattery_76 rfl (lv_at hl 3 rfl) ?_
          refine gcVv (wf := CW G.2 a) (N := 20) (ad := a) (As := [.int x1, .int x2, .int x3]) (rest := []) (S := p27.2) ⟨hx, hb, hml, hown, hts⟩ hK hP hS (c_X0_install l G a ha ((p27.2.1 4).toNatClampNeg) (by omega) x1 x2 x3 p27.2 _) (cwV 3 hts gX3_addBattery_X0_install rfl rfl rfl (by decide +kernel) ⟨Nat.le_of_ble_eq_true rfl, Nat.le_of_ble_eq_true rfl⟩) (crB hK hP (i := (p27.2.1 4).toNatClampNeg) (by omega)) rfl hl.1 rfl (Nat.le_of_ble_eq_true rfl) dX3_addBattery_77 ⟨Nat.le_of_ble_eq_true rfl, Nat.le_of_ble_eq_true rfl⟩ (fun p77 H locs ep77 hP hS => ?_)
          rewrite [← ep77] at h
          rewrite [f_X3_addBattery_c77] at h
          refine lv_aload_n hx hb dX3_addBattery_80 rfl (lv_at hl 0 rfl) ?_
          refine lv_dup hx hb dX3_addBattery_81 rfl ?_
          refine cgM hx hb hw3 hown hK hP 4 (by decide) (v := .int (p77.1 4)) rfl (hts (.fieldLink RX3 71 "BackupPower" "batteryCount" "I") (by decide +kernel)) dX3_addBattery_82 ?_
          refine lv_iconst (v := 1) hx hb dX3_addBattery_85 (by decide) ?_
          refine lv_iadd hx hb dX3_addBattery_86 ?_
          refine cpM hx hb hw3 hown hK ha hP hS 4 (by decide) (by decide) rfl okI (hts (.fieldLink RX3 71 "BackupPower" "batteryCount" "I") (by decide +kernel)) dX3_addBattery_87 (fun H locs hP hS => ?_)
          refine lv_aload_n hx hb dX3_addBattery_90 rfl (lv_at hl 0 rfl) ?_
          refine cgM hx hb hw3 hown hK hP 4 (by decide) (v := .int ((cuM p77 4 ((p77.1 4) + 1)).1 4)) rfl (hts (.fieldLink RX3 71 "BackupPower" "batteryCount" "I") (by decide +kernel)) dX3_addBattery_91 ?_
          refine lv_iconst (v := 1) hx hb dX3_addBattery_94 (by decide) ?_
          refine lv_isub hx hb dX3_addBattery_95 ?_
          refine W.widen (k := 1) (n := 6) (Nat.le_of_ble_eq_true rfl) (Nat.le_of_ble_eq_true rfl) ?_
          exact gxRi (wf := CW G.2 a) (S := (cuM p77 4 ((p77.1 4) + 1))) hx hb hr hlocks hP hS h dX3_addBattery_96
        · rewrite [if_neg c52] at h
          exact gxT (wf := CW G.2 a) (N := 20) (ad := a) (u := 1) (S := p27.2) hx hb hst hown hlocks htab hexc hP hS (hl.1.trans hml.symm) (ik := 60) (is := 74) (ic := 64) (text := "there are 3 batteries") (by decide) (hts (.classLink RX3 60 "java/lang/IllegalStateException") (by decide +kernel)) (hts (.initialized "java/lang/IllegalStateException") (by decide +kernel)) (fun w hw => hts w ((by decide +kernel : ∀ w ∈ (vx_atS RX3 64 (exN 1) exS).filter goodWord, w ∈ wsX3_addBattery) w hw)) (by decide +kernel) (by decide +kernel) (by decide +kernel) dX3_addBattery_55 dX3_addBattery_58 dX3_addBattery_59 dX3_addBattery_61 dX3_addBattery_64 (by decide) h
      · rewrite [if_neg c30] at h
        exact J33 p27.2 h _ _ _ hP hS (lv_sub hl [] rfl)

def f_X3_addGenerator_b32 (x1 : Int32) (x2 : Int32) (x3 : Int32) (S32 : CS) : (Int32 × CS) ⊕ (Nat × CS) := (Sum.inr (0, S32))
def f_X3_addGenerator_c76 (x1 : Int32) (x2 : Int32) (x3 : Int32) (p76 : CS) : (Int32 × CS) ⊕ (Nat × CS) := (Sum.inl (((cuM p76 5 ((p76.1 5) + 1)).1 5) - 1, (cuM p76 5 ((p76.1 5) + 1))))
def f_X3_addGenerator_c26 (x1 : Int32) (x2 : Int32) (x3 : Int32) (p26 : Int32 × CS) : (Int32 × CS) ⊕ (Nat × CS) := (if p26.1 = 0 then (if (p26.2.1 5) < (nI 3) then (f_X3_addGenerator_c76 x1 x2 x3 (f_X1_install ((p26.2.1 5).toNatClampNeg) x1 x2 x3 p26.2)) else (Sum.inr (1, p26.2))) else (f_X3_addGenerator_b32 x1 x2 x3 p26.2))
def f_X3_addGenerator_c15 (x1 : Int32) (x2 : Int32) (x3 : Int32) (p15 : Int32 × CS) : (Int32 × CS) ⊕ (Nat × CS) := (if p15.1 = 0 then (f_X3_addGenerator_c26 x1 x2 x3 (f_X3_isOutside x3 1 1000 p15.2)) else (f_X3_addGenerator_b32 x1 x2 x3 p15.2))
def f_X3_addGenerator_c5 (x1 : Int32) (x2 : Int32) (x3 : Int32) (p5 : Int32 × CS) : (Int32 × CS) ⊕ (Nat × CS) := (if p5.1 = 0 then (f_X3_addGenerator_c15 x1 x2 x3 (f_X3_isOutside x2 1 10 p5.2)) else (f_X3_addGenerator_b32 x1 x2 x3 p5.2))
def f_X3_addGenerator (x1 : Int32) (x2 : Int32) (x3 : Int32) (S : CS) : (Int32 × CS) ⊕ (Nat × CS) := (f_X3_addGenerator_c5 x1 x2 x3 (f_X3_isOutside x1 1 1000 S))
set_option maxHeartbeats 4000000 in
set_option maxRecDepth 100000 in
theorem c_X3_addGenerator (l : Launch) (G : WG) (a : Nat → Nat) (ha : wInj 20 a) (hst : l.stackTraces = false) (x1 : Int32) (x2 : Int32) (x3 : Int32) (S : CS) (hc3 : ∃ N, N ≤ 3 ∧ S.1 5 = nI N) (sz : Nat) : gxMi l yX3_addGenerator wsX3_addGenerator ({ frames := 6, cells := 1, slots := 6, locals := 90 }) 1 6 G 20 a (CW G.2 a) [.ref (a 0), .int x1, .int x2, .int x3] S sz (f_X3_addGenerator x1 x2 x3 S) := by
  unfold gxMi
  refine vx_ofW (cc := cX3_addGenerator) (maxL := 4) (ret := (some .int)) (by decide) rfl ?_
  intro p e s m args below meth c s₁ B hml htab hv
  obtain ⟨rfl, rfl, hP, hK, hexc⟩ := hv
  have hx := B.exec
  have hb := B.bytes
  have hr := B.returns
  have hts := atoms_spec (ws := wsX3_addGenerator) B.pre
  have hown : s.vm.findClass RX3 = some m.cls := findClass_of_methodNamed B.named
  have hlocks := B.notSynchronized
  have hS : va_S (wA 20 a s.heap.size) s.heap s.heap [] := va_S.rf
  have hw3 : ∀ w ∈ wsX30, w.before ([.ref (a 0), .int x1, .int x2, .int x3] : List Value).toArray s = true := fun w hw => hts w ((by decide +kernel : ∀ w ∈ wsX30, w ∈ wsX3_addGenerator) w hw)
  have hl := lv_entry ([.ref (a 0), .int x1, .int x2, .int x3]) (n := 4) (Nat.le_of_ble_eq_true rfl)
  rw [lg_entry_eq]
  generalize (lg_sl ([.ref (a 0), .int x1, .int x2, .int x3] : List Value) ++ List.replicate (4 - (lg_sl ([.ref (a 0), .int x1, .int x2, .int x3] : List Value)).length) Slot.unset).toArray = ls at hl ⊢
  have hl : lv_has ls 4 [(0, .ref (a 0)), (1, .int x1), (2, .int x2), (3, .int x3)] := hl
  generalize hF : f_X3_addGenerator x1 x2 x3 S = F
  have h : f_X3_addGenerator x1 x2 x3 S = F := hF
  clear hF
  show W p l e ({ frames := 6, cells := 1, slots := 6, locals := 90 } : Room) s m ([.ref (a 0), .int x1, .int x2, .int x3] : List Value).toArray below meth c s.heap [] 0 0 (gxQi below 1 6 G (CW G.2 a) 20 a F ([.ref (a 0), .int x1, .int x2, .int x3] : List Value).toArray s) (F0 m 0 ls [])
  have J32 : ∀ (S32 : CS), f_X3_addGenerator_b32 x1 x2 x3 S32 = F → ∀ (H : Heap) (locs : List Loc) (ls : Array Slot), wC G a S32 H → va_S (wA 20 a s.heap.size) s.heap H locs → lv_has ls 4 [] → W p l e ({ frames := 6, cells := 1, slots := 6, locals := 90 } : Room) s m ([.ref (a 0), .int x1, .int x2, .int x3] : List Value).toArray below meth c H locs 0 0 (gxQi below 1 6 G (CW G.2 a) 20 a F ([.ref (a 0), .int x1, .int x2, .int x3] : List Value).toArray s) (F0 m 32 ls []) := by
    intro S32 h H locs ls hP hS hl
    rewrite [f_X3_addGenerator_b32] at h
    exact gxT (wf := CW G.2 a) (N := 20) (ad := a) (u := 0) (S := S32) hx hb hst hown hlocks htab hexc hP hS (hl.1.trans hml.symm) (ik := 50) (is := 77) (ic := 54) (text := "power, delay or tank is out of range") (by decide) (hts (.classLink RX3 50 "java/lang/IllegalArgumentException") (by decide +kernel)) (hts (.initialized "java/lang/IllegalArgumentException") (by decide +kernel)) (fun w hw => hts w ((by decide +kernel : ∀ w ∈ (vx_atS RX3 54 (exN 0) exS).filter goodWord, w ∈ wsX3_addGenerator) w hw)) (by decide +kernel) (by decide +kernel) (by decide +kernel) dX3_addGenerator_32 dX3_addGenerator_35 dX3_addGenerator_36 dX3_addGenerator_38 dX3_addGenerator_41 (by decide) h
  rewrite [f_X3_addGenerator] at h
  refine lv_iload_n hx hb dX3_addGenerator_0 rfl (lv_at hl 1 rfl) ?_
  refine lv_iconst (v := 1) hx hb dX3_addGenerator_1 (by decide) ?_
  refine lv_sipush (v := 1000) hx hb dX3_addGenerator_2 (by decide) ?_
  refine gcSz (wf := CW G.2 a) (N := 20) (ad := a) (As := [.int x1, .int 1, .int 1000]) (rest := []) (S := S) ⟨hx, hb, hml, hown, hts⟩ hK hP hS (c_X3_isOutside l G a ha x1 1 1000 S _) (va_cwS 3 hts gX3_addGenerator_X3_isOutside rfl rfl rfl (by decide +kernel) ⟨Nat.le_of_ble_eq_true rfl, Nat.le_of_ble_eq_true rfl⟩) rfl hl.1 rfl (Nat.le_of_ble_eq_true rfl) dX3_addGenerator_5 ⟨Nat.le_of_ble_eq_true rfl, Nat.le_of_ble_eq_true rfl⟩ (fun p5 H locs ep5 hbp5 hP hS => ?_)
  rewrite [← ep5] at h
  rewrite [f_X3_addGenerator_c5] at h
  refine lv_if_ne (tgt := 32) hx hb dX3_addGenerator_8 (by decide) (fun c8 => ?_) (fun c8 => ?_)
  · rewrite [if_neg c8] at h
    exact J32 p5.2 h _ _ _ hP hS (lv_sub hl [] rfl)
  · rewrite [if_pos c8] at h
    refine lv_iload_n hx hb dX3_addGenerator_11 rfl (lv_at hl 2 rfl) ?_
    refine lv_iconst (v := 1) hx hb dX3_addGenerator_12 (by decide) ?_
    refine lv_bipush (v := 10) hx hb dX3_addGenerator_13 (by decide) ?_
    refine gcSz (wf := CW G.2 a) (N := 20) (ad := a) (As := [.int x2, .int 1, .int 10]) (rest := []) (S := p5.2) ⟨hx, hb, hml, hown, hts⟩ hK hP hS (c_X3_isOutside l G a ha x2 1 10 p5.2 _) (va_cwS 3 hts gX3_addGenerator_X3_isOutside rfl rfl rfl (by decide +kernel) ⟨Nat.le_of_ble_eq_true rfl, Nat.le_of_ble_eq_true rfl⟩) rfl hl.1 rfl (Nat.le_of_ble_eq_true rfl) dX3_addGenerator_15 ⟨Nat.le_of_ble_eq_true rfl, Nat.le_of_ble_eq_true rfl⟩ (fun p15 H locs ep15 hbp15 hP hS => ?_)
    rewrite [← ep15] at h
    rewrite [f_X3_addGenerator_c15] at h
    refine lv_if_ne (tgt := 32) hx hb dX3_addGenerator_18 (by decide) (fun c18 => ?_) (fun c18 => ?_)
    · rewrite [if_neg c18] at h
      exact J32 p15.2 h _ _ _ hP hS (lv_sub hl [] rfl)
    · rewrite [if_pos c18] at h
      refine lv_iload_n hx hb dX3_addGenerator_21 rfl (lv_at hl 3 rfl) ?_
      refine lv_iconst (v := 1) hx hb dX3_addGenerator_22 (by decide) ?_
      refine lv_sipush (v := 1000) hx hb dX3_addGenerator_23 (by decide) ?_
      refine gcSz (wf := CW G.2 a) (N := 20) (ad := a) (As := [.int x3, .int 1, .int 1000]) (rest := []) (S := p15.2) ⟨hx, hb, hml, hown, hts⟩ hK hP hS (c_X3_isOutside l G a ha x3 1 1000 p15.2 _) (va_cwS 3 hts gX3_addGenerator_X3_isOutside rfl rfl rfl (by decide +kernel) ⟨Nat.le_of_ble_eq_true rfl, Nat.le_of_ble_eq_true rfl⟩) rfl hl.1 rfl (Nat.le_of_ble_eq_true rfl) dX3_addGenerator_26 ⟨Nat.le_of_ble_eq_true rfl, Nat.le_of_ble_eq_true rfl⟩ (fun p26 H locs ep26 hbp26 hP hS => ?_)
      rewrite [← ep26] at h
      rewrite [f_X3_addGenerator_c26] at h
      refine lv_if_eq (tgt := 42) hx hb dX3_addGenerator_29 (by decide) (fun c29 => ?_) (fun c29 => ?_)
      · rewrite [if_pos c29] at h
        refine lv_aload_n hx hb dX3_addGenerator_42 rfl (lv_at hl 0 rfl) ?_
        refine cgM hx hb hw3 hown hK hP 5 (by decide) (v := .int (p26.2.1 5)) rfl (hts (.fieldLink RX3 79 "BackupPower" "generatorCount" "I") (by decide +kernel)) dX3_addGenerator_43 ?_
        refine lv_aload_n hx hb dX3_addGenerator_46 rfl (lv_at hl 0 rfl) ?_
        refine cgM hx hb hw3 hown hK hP 2 (by decide) (v := .ref (a 3)) rfl (hts (.fieldLink RX3 23 "BackupPower" "generators" "[LBackupPower$Generator;") (by decide +kernel)) dX3_addGenerator_47 ?_
        refine clG hx hb hK hP dX3_addGenerator_50 ?_
        refine lv_icmp_lt (tgt := 64) hx hb dX3_addGenerator_51 (by decide) (fun c51 => ?_) (fun c51 => ?_)
        · rewrite [if_pos c51] at h
          refine lv_aload_n hx hb dX3_addGenerator_64 rfl (lv_at hl 0 rfl) ?_
          refine cgM hx hb hw3 hown hK hP 2 (by decide) (v := .ref (a 3)) rfl (hts (.fieldLink RX3 23 "BackupPower" "generators" "[LBackupPower$Generator;") (by decide +kernel)) dX3_addGenerator_65 ?_
          refine lv_aload_n hx hb dX3_addGenerator_68 rfl (lv_at hl 0 rfl) ?_
          refine cgM hx hb hw3 hown hK hP 5 (by decide) (v := .int (p26.2.1 5)) rfl (hts (.fieldLink RX3 79 "BackupPower" "generatorCount" "I") (by decide +kernel)) dX3_addGenerator_69 ?_
          have hix72 : vp_in (p26.2.1 5) 3 := (ix_add (by decide) hc3 (by rw [ep26, isO_2, ep15, isO_2, ep5, isO_2]) c51)
          have hjx72 : (p26.2.1 5).toNatClampNeg < 3 := vp_lt hix72
          refine crdGI hx hb hK hP hix72 dX3_addGenerator_72 ?_
          refine lv_iload_n hx hb dX3_addGenerator_73 rfl (lv_at hl 1 rfl) ?_
          refine lv_iload_n hx hb dX3_addGenerator_74 rfl (lv_at hl 2 rfl) ?_
          refine lv_iload_n hx hb dX3_addGenerator_75 rfl (lv_at hl 3 rfl) ?_
          refine gcVv (wf := CW G.2 a) (N := 20) (ad := a) (As := [.int x1, .int x2, .int x3]) (rest := []) (S := p26.2) ⟨hx, hb, hml, hown, hts⟩ hK hP hS (c_X1_install l G a ha ((p26.2.1 5).toNatClampNeg) (by omega) x1 x2 x3 p26.2 _) (cwV 3 hts gX3_addGenerator_X1_install rfl rfl rfl (by decide +kernel) ⟨Nat.le_of_ble_eq_true rfl, Nat.le_of_ble_eq_true rfl⟩) (crG hK hP (i := (p26.2.1 5).toNatClampNeg) (by omega)) rfl hl.1 rfl (Nat.le_of_ble_eq_true rfl) dX3_addGenerator_76 ⟨Nat.le_of_ble_eq_true rfl, Nat.le_of_ble_eq_true rfl⟩ (fun p76 H locs ep76 hP hS => ?_)
          rewrite [← ep76] at h
          rewrite [f_X3_addGenerator_c76] at h
          refine lv_aload_n hx hb dX3_addGenerator_79 rfl (lv_at hl 0 rfl) ?_
          refine lv_dup hx hb dX3_addGenerator_80 rfl ?_
          refine cgM hx hb hw3 hown hK hP 5 (by decide) (v := .int (p76.1 5)) rfl (hts (.fieldLink RX3 79 "BackupPower" "generatorCount" "I") (by decide +kernel)) dX3_addGenerator_81 ?_
          refine lv_iconst (v := 1) hx hb dX3_addGenerator_84 (by decide) ?_
          refine lv_iadd hx hb dX3_addGenerator_85 ?_
          refine cpM hx hb hw3 hown hK ha hP hS 5 (by decide) (by decide) rfl okI (hts (.fieldLink RX3 79 "BackupPower" "generatorCount" "I") (by decide +kernel)) dX3_addGenerator_86 (fun H locs hP hS => ?_)
          refine lv_aload_n hx hb dX3_addGenerator_89 rfl (lv_at hl 0 rfl) ?_
          refine cgM hx hb hw3 hown hK hP 5 (by decide) (v := .int ((cuM p76 5 ((p76.1 5) + 1)).1 5)) rfl (hts (.fieldLink RX3 79 "BackupPower" "generatorCount" "I") (by decide +kernel)) dX3_addGenerator_90 ?_
          refine lv_iconst (v := 1) hx hb dX3_addGenerator_93 (by decide) ?_
          refine lv_isub hx hb dX3_addGenerator_94 ?_
          refine W.widen (k := 1) (n := 6) (Nat.le_of_ble_eq_true rfl) (Nat.le_of_ble_eq_true rfl) ?_
          exact gxRi (wf := CW G.2 a) (S := (cuM p76 5 ((p76.1 5) + 1))) hx hb hr hlocks hP hS h dX3_addGenerator_95
        · rewrite [if_neg c51] at h
          exact gxT (wf := CW G.2 a) (N := 20) (ad := a) (u := 1) (S := p26.2) hx hb hst hown hlocks htab hexc hP hS (hl.1.trans hml.symm) (ik := 60) (is := 82) (ic := 64) (text := "there are 3 generators") (by decide) (hts (.classLink RX3 60 "java/lang/IllegalStateException") (by decide +kernel)) (hts (.initialized "java/lang/IllegalStateException") (by decide +kernel)) (fun w hw => hts w ((by decide +kernel : ∀ w ∈ (vx_atS RX3 64 (exN 1) exS).filter goodWord, w ∈ wsX3_addGenerator) w hw)) (by decide +kernel) (by decide +kernel) (by decide +kernel) dX3_addGenerator_54 dX3_addGenerator_57 dX3_addGenerator_58 dX3_addGenerator_60 dX3_addGenerator_63 (by decide) h
      · rewrite [if_neg c29] at h
        exact J32 p26.2 h _ _ _ hP hS (lv_sub hl [] rfl)

def f_X3_pass_c32 (x1 : Int32) (K25 : Nat → CS → Int32 → (Int32 × CS) ⊕ (Nat × CS)) (k25 : Nat) (v2_25 : Int32) (p32 : Int32 × CS) : (Int32 × CS) ⊕ (Nat × CS) := (K25 (k25 + 1) p32.2 (v2_25 + p32.1))
def f_X3_pass_h25 (x1 : Int32) : Nat → Nat → CS → Int32 → (Int32 × CS) ⊕ (Nat × CS)
  | 0, _, S25, _ => Sum.inr (9, S25)
  | q + 1, k25, S25, v2_25 => (if x1 ≤ (nI k25) then (Sum.inl (v2_25, S25)) else (f_X3_pass_c32 x1 (f_X3_pass_h25 x1 q) k25 v2_25 (f_X3_passOneMinute S25)))
def f_X3_pass_c5 (x1 : Int32) (p5 : Int32 × CS) : (Int32 × CS) ⊕ (Nat × CS) := (if p5.1 = 0 then (f_X3_pass_h25 x1 (x1.toNatClampNeg + 1) 0 p5.2 0) else (Sum.inr (0, p5.2)))
def f_X3_pass (x1 : Int32) (S : CS) : (Int32 × CS) ⊕ (Nat × CS) := (f_X3_pass_c5 x1 (f_X3_isOutside x1 1 500 S))
set_option maxHeartbeats 4000000 in
set_option maxRecDepth 100000 in
theorem c_X3_pass (l : Launch) (G : WG) (a : Nat → Nat) (ha : wInj 20 a) (hst : l.stackTraces = false) (x1 : Int32) (S : CS) (sz : Nat) : gxMi l yX3_pass wsX3_pass ({ frames := 6, cells := 1, slots := 6, locals := 118 }) 1 6 G 20 a (CW G.2 a) [.ref (a 0), .int x1] S sz (f_X3_pass x1 S) := by
  unfold gxMi
  refine vx_ofW (cc := cX3_pass) (maxL := 4) (ret := (some .int)) (by decide) rfl ?_
  intro p e s m args below meth c s₁ B hml htab hv
  obtain ⟨rfl, rfl, hP, hK, hexc⟩ := hv
  have hx := B.exec
  have hb := B.bytes
  have hr := B.returns
  have hts := atoms_spec (ws := wsX3_pass) B.pre
  have hown : s.vm.findClass RX3 = some m.cls := findClass_of_methodNamed B.named
  have hlocks := B.notSynchronized
  have hS : va_S (wA 20 a s.heap.size) s.heap s.heap [] := va_S.rf
  have hl := lv_entry ([.ref (a 0), .int x1]) (n := 4) (Nat.le_of_ble_eq_true rfl)
  rw [lg_entry_eq]
  generalize (lg_sl ([.ref (a 0), .int x1] : List Value) ++ List.replicate (4 - (lg_sl ([.ref (a 0), .int x1] : List Value)).length) Slot.unset).toArray = ls at hl ⊢
  have hl : lv_has ls 4 [(0, .ref (a 0)), (1, .int x1)] := hl
  generalize hF : f_X3_pass x1 S = F
  have h : f_X3_pass x1 S = F := hF
  clear hF
  show W p l e ({ frames := 6, cells := 1, slots := 6, locals := 118 } : Room) s m ([.ref (a 0), .int x1] : List Value).toArray below meth c s.heap [] 0 0 (gxQi below 1 6 G (CW G.2 a) 20 a F ([.ref (a 0), .int x1] : List Value).toArray s) (F0 m 0 ls [])
  have L25 : ∀ (q25 : Nat) (k25 : Nat) (S25 : CS) (v2_25 : Int32), k25 ≤ x1.toNatClampNeg → x1.toNatClampNeg < k25 + q25 → f_X3_pass_h25 x1 q25 k25 S25 v2_25 = F → ∀ (H : Heap) (locs : List Loc) (ls : Array Slot), wC G a S25 H → va_S (wA 20 a s.heap.size) s.heap H locs → lv_has ls 4 [(0, .ref (a 0)), (1, .int x1), (2, .int v2_25), (3, .int (nI k25))] → W p l e ({ frames := 6, cells := 1, slots := 6, locals := 118 } : Room) s m ([.ref (a 0), .int x1] : List Value).toArray below meth c H locs 0 0 (gxQi below 1 6 G (CW G.2 a) 20 a F ([.ref (a 0), .int x1] : List Value).toArray s) (F0 m 25 ls []) := by
    intro q25
    induction q25 with
    | zero => intro k25 S25 v2_25 hk25 hq25 h H locs ls hP hS hl; omega
    | succ q25 ih25 =>
      intro k25 S25 v2_25 hk25 hq25 h H locs ls hP hS hl
      rewrite [f_X3_pass_h25] at h
      refine lv_iload_n hx hb dX3_pass_25 rfl (lv_at hl 3 rfl) ?_
      refine lv_iload_n hx hb dX3_pass_26 rfl (lv_at hl 1 rfl) ?_
      refine lv_icmp_ge (tgt := 43) hx hb dX3_pass_27 (by decide) (fun c27 => ?_) (fun c27 => ?_)
      · rewrite [if_pos c27] at h
        refine lv_iload_n hx hb dX3_pass_43 rfl (lv_at hl 2 rfl) ?_
        refine W.widen (k := 1) (n := 6) (Nat.le_of_ble_eq_true rfl) (Nat.le_of_ble_eq_true rfl) ?_
        exact gxRi (wf := CW G.2 a) (S := S25) hx hb hr hlocks hP hS h dX3_pass_44
      · rewrite [if_neg c27] at h
        have hkb25 := pb_lt hk25 c27
        refine lv_iload_n hx hb dX3_pass_30 rfl (lv_at hl 2 rfl) ?_
        refine lv_aload_n hx hb dX3_pass_31 rfl (lv_at hl 0 rfl) ?_
        refine gcVi (wf := CW G.2 a) (N := 20) (ad := a) (As := []) (rest := [.int v2_25]) (S := S25) ⟨hx, hb, hml, hown, hts⟩ hK hP hS (c_X3_passOneMinute l G a ha  S25 _) (cwV 0 hts gX3_pass_X3_passOneMinute rfl rfl rfl (by decide +kernel) ⟨Nat.le_of_ble_eq_true rfl, Nat.le_of_ble_eq_true rfl⟩) (crM hK hP) rfl hl.1 rfl (Nat.le_of_ble_eq_true rfl) dX3_pass_32 ⟨Nat.le_of_ble_eq_true rfl, Nat.le_of_ble_eq_true rfl⟩ (fun p32 H locs ep32 hP hS => ?_)
        rewrite [← ep32] at h
        rewrite [f_X3_pass_c32] at h
        refine lv_iadd hx hb dX3_pass_35 ?_
        refine lv_istore_n (lv' := [(2, .int (v2_25 + p32.1)), (0, .ref (a 0)), (1, .int x1), (3, .int (nI k25))]) hx hb dX3_pass_36 rfl hl (by decide) rfl (fun ls hl => ?_)
        refine lv_iinc (k := 3) (v := nI (k25 + 1)) (lv' := [(3, .int (nI (k25 + 1))), (2, .int (v2_25 + p32.1)), (0, .ref (a 0)), (1, .int x1)]) hx hb dX3_pass_37 hl rfl (nI_inc _) (by decide) rfl (fun ls hl => ?_)
        refine lv_goto (tgt := 25) hx hb dX3_pass_40 (by decide) ?_
        exact ih25 (k25 + 1) p32.2 (v2_25 + p32.1) (by omega) (by omega) h _ _ _ hP hS (lv_sub hl [2, 3, 1, 0] rfl)
  rewrite [f_X3_pass] at h
  refine lv_iload_n hx hb dX3_pass_0 rfl (lv_at hl 1 rfl) ?_
  refine lv_iconst (v := 1) hx hb dX3_pass_1 (by decide) ?_
  refine lv_sipush (v := 500) hx hb dX3_pass_2 (by decide) ?_
  refine gcSz (wf := CW G.2 a) (N := 20) (ad := a) (As := [.int x1, .int 1, .int 500]) (rest := []) (S := S) ⟨hx, hb, hml, hown, hts⟩ hK hP hS (c_X3_isOutside l G a ha x1 1 500 S _) (va_cwS 3 hts gX3_pass_X3_isOutside rfl rfl rfl (by decide +kernel) ⟨Nat.le_of_ble_eq_true rfl, Nat.le_of_ble_eq_true rfl⟩) rfl hl.1 rfl (Nat.le_of_ble_eq_true rfl) dX3_pass_5 ⟨Nat.le_of_ble_eq_true rfl, Nat.le_of_ble_eq_true rfl⟩ (fun p5 H locs ep5 hbp5 hP hS => ?_)
  rewrite [← ep5] at h
  rewrite [f_X3_pass_c5] at h
  refine lv_if_eq (tgt := 21) hx hb dX3_pass_8 (by decide) (fun c8 => ?_) (fun c8 => ?_)
  · rewrite [if_pos c8] at h
    refine lv_iconst (v := 0) hx hb dX3_pass_21 (by decide) ?_
    refine lv_istore_n (lv' := [(2, .int 0), (0, .ref (a 0)), (1, .int x1)]) hx hb dX3_pass_22 rfl hl (by decide) rfl (fun ls hl => ?_)
    refine lv_iconst (v := 0) hx hb dX3_pass_23 (by decide) ?_
    refine lv_istore_n (lv' := [(3, .int 0), (2, .int 0), (0, .ref (a 0)), (1, .int x1)]) hx hb dX3_pass_24 rfl hl (by decide) rfl (fun ls hl => ?_)
    exact L25 (x1.toNatClampNeg + 1) 0 p5.2 0 (by omega) (by omega) h _ _ _ hP hS (lv_sub hl [2, 3, 1, 0] rfl)
  · rewrite [if_neg c8] at h
    exact gxT (wf := CW G.2 a) (N := 20) (ad := a) (u := 0) (S := p5.2) hx hb hst hown hlocks htab hexc hP hS (hl.1.trans hml.symm) (ik := 50) (is := 130) (ic := 54) (text := "minutes is out of range") (by decide) (hts (.classLink RX3 50 "java/lang/IllegalArgumentException") (by decide +kernel)) (hts (.initialized "java/lang/IllegalArgumentException") (by decide +kernel)) (fun w hw => hts w ((by decide +kernel : ∀ w ∈ (vx_atS RX3 54 (exN 0) exS).filter goodWord, w ∈ wsX3_pass) w hw)) (by decide +kernel) (by decide +kernel) (by decide +kernel) dX3_pass_11 dX3_pass_14 dX3_pass_15 dX3_pass_17 dX3_pass_20 (by decide) h
