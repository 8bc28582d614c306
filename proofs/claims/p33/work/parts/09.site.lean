def f_X3_isOutside_b15 (x1 : Int32) (x2 : Int32) (x3 : Int32) (S15 : CS) (s0_15 : Int32) : Int32 × CS := (s0_15, S15)
def f_X3_isOutside_b10 (x1 : Int32) (x2 : Int32) (x3 : Int32) (S10 : CS) : Int32 × CS := (f_X3_isOutside_b15 x1 x2 x3 S10 1)
def f_X3_isOutside (x1 : Int32) (x2 : Int32) (x3 : Int32) (S : CS) : Int32 × CS := (if x1 < x2 then (f_X3_isOutside_b10 x1 x2 x3 S) else (if x1 ≤ x3 then (f_X3_isOutside_b15 x1 x2 x3 S 0) else (f_X3_isOutside_b10 x1 x2 x3 S)))
set_option maxHeartbeats 4000000 in
set_option maxRecDepth 100000 in
theorem c_X3_isOutside (l : Launch) (G : WG) (a : Nat → Nat) (ha : wInj 21 a) (x1 : Int32) (x2 : Int32) (x3 : Int32) (S : CS) (sz : Nat) : gMz l yX3_isOutside wsX3_isOutside ({ frames := 0, cells := 0, slots := 0, locals := 0 }) G 21 a (CW G.2 a) [.int x1, .int x2, .int x3] S sz (f_X3_isOutside x1 x2 x3 S) := by
  unfold gMz
  refine Met.ofW (cc := cX3_isOutside) (maxL := 3) (ret := (some .boolean)) (by decide) rfl ?_
  intro p e s m args below meth c s₁ B hml hv
  obtain ⟨rfl, rfl, hP, hK⟩ := hv
  have hx := B.exec
  have hb := B.bytes
  have hr := B.returns
  have hts := atoms_spec (ws := wsX3_isOutside) B.pre
  have hown : s.vm.findClass RX3 = some m.cls := findClass_of_methodNamed B.named
  have hlocks := B.notSynchronized
  have hS : va_S (wA 21 a s.heap.size) s.heap s.heap [] := va_S.rf
  have hl := lv_entry ([.int x1, .int x2, .int x3]) (n := 3) (Nat.le_of_ble_eq_true rfl)
  rw [lg_entry_eq]
  generalize (lg_sl ([.int x1, .int x2, .int x3] : List Value) ++ List.replicate (3 - (lg_sl ([.int x1, .int x2, .int x3] : List Value)).length) Slot.unset).toArray = ls at hl ⊢
  have hl : lv_has ls 3 [(0, .int x1), (1, .int x2), (2, .int x3)] := hl
  generalize hF : f_X3_isOutside x1 x2 x3 S = F
  have h : f_X3_isOutside x1 x2 x3 S = F := hF
  clear hF
  show W p l e ({ frames := 0, cells := 0, slots := 0, locals := 0 } : Room) s m ([.int x1, .int x2, .int x3] : List Value).toArray below meth c s.heap [] 0 0 (gQz below G (CW G.2 a) 21 a F ([.int x1, .int x2, .int x3] : List Value).toArray s) (F0 m 0 ls [])
  have J15 : ∀ (S15 : CS) (s0_15 : Int32), (isB s0_15) → f_X3_isOutside_b15 x1 x2 x3 S15 s0_15 = F → ∀ (H : Heap) (locs : List Loc) (ls : Array Slot), wC G a S15 H → va_S (wA 21 a s.heap.size) s.heap H locs → lv_has ls 3 [] → W p l e ({ frames := 0, cells := 0, slots := 0, locals := 0 } : Room) s m ([.int x1, .int x2, .int x3] : List Value).toArray below meth c H locs 0 0 (gQz below G (CW G.2 a) 21 a F ([.int x1, .int x2, .int x3] : List Value).toArray s) (F0 m 15 ls [.int s0_15]) := by
    intro S15 s0_15 hbs0_15 h H locs ls hP hS hl
    rewrite [f_X3_isOutside_b15] at h
    exact gRz (wf := CW G.2 a) (S := S15) hx hb hr hlocks hbs0_15 hP hS h dX3_isOutside_15
  have J10 : ∀ (S10 : CS), f_X3_isOutside_b10 x1 x2 x3 S10 = F → ∀ (H : Heap) (locs : List Loc) (ls : Array Slot), wC G a S10 H → va_S (wA 21 a s.heap.size) s.heap H locs → lv_has ls 3 [] → W p l e ({ frames := 0, cells := 0, slots := 0, locals := 0 } : Room) s m ([.int x1, .int x2, .int x3] : List Value).toArray below meth c H locs 0 0 (gQz below G (CW G.2 a) 21 a F ([.int x1, .int x2, .int x3] : List Value).toArray s) (F0 m 10 ls []) := by
    intro S10 h H locs ls hP hS hl
    rewrite [f_X3_isOutside_b10] at h
    refine lv_iconst (v := 1) hx hb dX3_isOutside_10 (by decide) ?_
    refine lv_goto (tgt := 15) hx hb dX3_isOutside_11 (by decide) ?_
    exact J15 S10 1 isB_1 h _ _ _ hP hS (lv_sub hl [] rfl)
  rewrite [f_X3_isOutside] at h
  refine lv_iload_n hx hb dX3_isOutside_0 rfl (lv_at hl 0 rfl) ?_
  refine lv_iload_n hx hb dX3_isOutside_1 rfl (lv_at hl 1 rfl) ?_
  refine lv_icmp_lt (tgt := 10) hx hb dX3_isOutside_2 (by decide) (fun c2 => ?_) (fun c2 => ?_)
  · rewrite [if_pos c2] at h
    exact J10 S h _ _ _ hP hS (lv_sub hl [] rfl)
  · rewrite [if_neg c2] at h
    refine lv_iload_n hx hb dX3_isOutside_5 rfl (lv_at hl 0 rfl) ?_
    refine lv_iload_n hx hb dX3_isOutside_6 rfl (lv_at hl 2 rfl) ?_
    refine lv_icmp_le (tgt := 14) hx hb dX3_isOutside_7 (by decide) (fun c7 => ?_) (fun c7 => ?_)
    · rewrite [if_pos c7] at h
      refine lv_iconst (v := 0) hx hb dX3_isOutside_14 (by decide) ?_
      exact J15 S 0 isB_0 h _ _ _ hP hS (lv_sub hl [] rfl)
    · rewrite [if_neg c7] at h
      exact J10 S h _ _ _ hP hS (lv_sub hl [] rfl)

def f_X3_setMains (x1 : Int32) (S : CS) : Int32 × CS := (S.1 6, (cuM S 6 x1))
set_option maxHeartbeats 4000000 in
set_option maxRecDepth 100000 in
theorem c_X3_setMains (l : Launch) (G : WG) (a : Nat → Nat) (ha : wInj 21 a) (x1 : Int32) (hbx1 : isB x1) (S : CS) (hB6 : isB (S.1 6)) (sz : Nat) : gMz l yX3_setMains wsX3_setMains ({ frames := 0, cells := 0, slots := 0, locals := 0 }) G 21 a (CW G.2 a) [.ref (a 0), .int x1] S sz (f_X3_setMains x1 S) := by
  unfold gMz
  refine Met.ofW (cc := cX3_setMains) (maxL := 3) (ret := (some .boolean)) (by decide) rfl ?_
  intro p e s m args below meth c s₁ B hml hv
  obtain ⟨rfl, rfl, hP, hK⟩ := hv
  have hx := B.exec
  have hb := B.bytes
  have hr := B.returns
  have hts := atoms_spec (ws := wsX3_setMains) B.pre
  have hown : s.vm.findClass RX3 = some m.cls := findClass_of_methodNamed B.named
  have hlocks := B.notSynchronized
  have hS : va_S (wA 21 a s.heap.size) s.heap s.heap [] := va_S.rf
  have hw3 : ∀ w ∈ wsX30, w.before ([.ref (a 0), .int x1] : List Value).toArray s = true := fun w hw => hts w ((by decide +kernel : ∀ w ∈ wsX30, w ∈ wsX3_setMains) w hw)
  have hl := lv_entry ([.ref (a 0), .int x1]) (n := 3) (Nat.le_of_ble_eq_true rfl)
  rw [lg_entry_eq]
  generalize (lg_sl ([.ref (a 0), .int x1] : List Value) ++ List.replicate (3 - (lg_sl ([.ref (a 0), .int x1] : List Value)).length) Slot.unset).toArray = ls at hl ⊢
  have hl : lv_has ls 3 [(0, .ref (a 0)), (1, .int x1)] := hl
  generalize hF : f_X3_setMains x1 S = F
  have h : f_X3_setMains x1 S = F := hF
  clear hF
  show W p l e ({ frames := 0, cells := 0, slots := 0, locals := 0 } : Room) s m ([.ref (a 0), .int x1] : List Value).toArray below meth c s.heap [] 0 0 (gQz below G (CW G.2 a) 21 a F ([.ref (a 0), .int x1] : List Value).toArray s) (F0 m 0 ls [])
  rewrite [f_X3_setMains] at h
  refine lv_aload_n hx hb dX3_setMains_0 rfl (lv_at hl 0 rfl) ?_
  refine cgM hx hb hw3 hown hK hP 6 (by decide) (v := .int (S.1 6)) rfl (hts (.fieldLink RX3 27 "BackupPower" "mainsUp" "Z") (by decide +kernel)) dX3_setMains_1 ?_
  refine lv_istore_n (lv' := [(2, .int (S.1 6)), (0, .ref (a 0)), (1, .int x1)]) hx hb dX3_setMains_4 rfl hl (by decide) rfl (fun ls hl => ?_)
  refine lv_aload_n hx hb dX3_setMains_5 rfl (lv_at hl 1 rfl) ?_
  refine lv_iload_n hx hb dX3_setMains_6 rfl (lv_at hl 2 rfl) ?_
  refine cpM hx hb hw3 hown hK ha hP hS 6 (by decide) (by decide) rfl (okB hbx1) (hts (.fieldLink RX3 27 "BackupPower" "mainsUp" "Z") (by decide +kernel)) dX3_setMains_7 (fun H locs hP hS => ?_)
  refine lv_iload_n hx hb dX3_setMains_10 rfl (lv_at hl 0 rfl) ?_
  exact gRz (wf := CW G.2 a) (S := (cuM S 6 x1)) hx hb hr hlocks hB6 hP hS h dX3_setMains_11

def f_X3_time (S : CS) : Int32 × CS := (S.1 7, S)
set_option maxHeartbeats 4000000 in
set_option maxRecDepth 100000 in
theorem c_X3_time (l : Launch) (G : WG) (a : Nat → Nat) (ha : wInj 21 a)  (S : CS) (sz : Nat) : gMi l yX3_time wsX3_time ({ frames := 0, cells := 0, slots := 0, locals := 0 }) G 21 a (CW G.2 a) [.ref (a 0)] S sz (f_X3_time  S) := by
  unfold gMi
  refine Met.ofW (cc := cX3_time) (maxL := 1) (ret := (some .int)) (by decide) rfl ?_
  intro p e s m args below meth c s₁ B hml hv
  obtain ⟨rfl, rfl, hP, hK⟩ := hv
  have hx := B.exec
  have hb := B.bytes
  have hr := B.returns
  have hts := atoms_spec (ws := wsX3_time) B.pre
  have hown : s.vm.findClass RX3 = some m.cls := findClass_of_methodNamed B.named
  have hlocks := B.notSynchronized
  have hS : va_S (wA 21 a s.heap.size) s.heap s.heap [] := va_S.rf
  have hw3 : ∀ w ∈ wsX30, w.before ([.ref (a 0)] : List Value).toArray s = true := fun w hw => hts w ((by decide +kernel : ∀ w ∈ wsX30, w ∈ wsX3_time) w hw)
  have hl := lv_entry ([.ref (a 0)]) (n := 1) (Nat.le_of_ble_eq_true rfl)
  rw [lg_entry_eq]
  generalize (lg_sl ([.ref (a 0)] : List Value) ++ List.replicate (1 - (lg_sl ([.ref (a 0)] : List Value)).length) Slot.unset).toArray = ls at hl ⊢
  have hl : lv_has ls 1 [(0, .ref (a 0))] := hl
  generalize hF : f_X3_time  S = F
  have h : f_X3_time  S = F := hF
  clear hF
  show W p l e ({ frames := 0, cells := 0, slots := 0, locals := 0 } : Room) s m ([.ref (a 0)] : List Value).toArray below meth c s.heap [] 0 0 (gQi below G (CW G.2 a) 21 a F ([.ref (a 0)] : List Value).toArray s) (F0 m 0 ls [])
  rewrite [f_X3_time] at h
  refine lv_aload_n hx hb dX3_time_0 rfl (lv_at hl 0 rfl) ?_
  refine cgM hx hb hw3 hown hK hP 7 (by decide) (v := .int (S.1 7)) rfl (hts (.fieldLink RX3 136 "BackupPower" "minutesPassed" "I") (by decide +kernel)) dX3_time_1 ?_
  exact gRi (wf := CW G.2 a) (S := S) hx hb hr hlocks hP hS h dX3_time_4

def f_X3_outage (S : CS) : Int32 × CS := (S.1 8, S)
set_option maxHeartbeats 4000000 in
set_option maxRecDepth 100000 in
theorem c_X3_outage (l : Launch) (G : WG) (a : Nat → Nat) (ha : wInj 21 a)  (S : CS) (sz : Nat) : gMi l yX3_outage wsX3_outage ({ frames := 0, cells := 0, slots := 0, locals := 0 }) G 21 a (CW G.2 a) [.ref (a 0)] S sz (f_X3_outage  S) := by
  unfold gMi
  refine Met.ofW (cc := cX3_outage) (maxL := 1) (ret := (some .int)) (by decide) rfl ?_
  intro p e s m args below meth c s₁ B hml hv
  obtain ⟨rfl, rfl, hP, hK⟩ := hv
  have hx := B.exec
  have hb := B.bytes
  have hr := B.returns
  have hts := atoms_spec (ws := wsX3_outage) B.pre
  have hown : s.vm.findClass RX3 = some m.cls := findClass_of_methodNamed B.named
  have hlocks := B.notSynchronized
  have hS : va_S (wA 21 a s.heap.size) s.heap s.heap [] := va_S.rf
  have hw3 : ∀ w ∈ wsX30, w.before ([.ref (a 0)] : List Value).toArray s = true := fun w hw => hts w ((by decide +kernel : ∀ w ∈ wsX30, w ∈ wsX3_outage) w hw)
  have hl := lv_entry ([.ref (a 0)]) (n := 1) (Nat.le_of_ble_eq_true rfl)
  rw [lg_entry_eq]
  generalize (lg_sl ([.ref (a 0)] : List Value) ++ List.replicate (1 - (lg_sl ([.ref (a 0)] : List Value)).length) Slot.unset).toArray = ls at hl ⊢
  have hl : lv_has ls 1 [(0, .ref (a 0))] := hl
  generalize hF : f_X3_outage  S = F
  have h : f_X3_outage  S = F := hF
  clear hF
  show W p l e ({ frames := 0, cells := 0, slots := 0, locals := 0 } : Room) s m ([.ref (a 0)] : List Value).toArray below meth c s.heap [] 0 0 (gQi below G (CW G.2 a) 21 a F ([.ref (a 0)] : List Value).toArray s) (F0 m 0 ls [])
  rewrite [f_X3_outage] at h
  refine lv_aload_n hx hb dX3_outage_0 rfl (lv_at hl 0 rfl) ?_
  refine cgM hx hb hw3 hown hK hP 8 (by decide) (v := .int (S.1 8)) rfl (hts (.fieldLink RX3 139 "BackupPower" "outageMinutes" "I") (by decide +kernel)) dX3_outage_1 ?_
  exact gRi (wf := CW G.2 a) (S := S) hx hb hr hlocks hP hS h dX3_outage_4

def f_X3_fromMains (S : CS) : Int32 × CS := (S.1 12, S)
set_option maxHeartbeats 4000000 in
set_option maxRecDepth 100000 in
theorem c_X3_fromMains (l : Launch) (G : WG) (a : Nat → Nat) (ha : wInj 21 a)  (S : CS) (sz : Nat) : gMi l yX3_fromMains wsX3_fromMains ({ frames := 0, cells := 0, slots := 0, locals := 0 }) G 21 a (CW G.2 a) [.ref (a 0)] S sz (f_X3_fromMains  S) := by
  unfold gMi
  refine Met.ofW (cc := cX3_fromMains) (maxL := 1) (ret := (some .int)) (by decide) rfl ?_
  intro p e s m args below meth c s₁ B hml hv
  obtain ⟨rfl, rfl, hP, hK⟩ := hv
  have hx := B.exec
  have hb := B.bytes
  have hr := B.returns
  have hts := atoms_spec (ws := wsX3_fromMains) B.pre
  have hown : s.vm.findClass RX3 = some m.cls := findClass_of_methodNamed B.named
  have hlocks := B.notSynchronized
  have hS : va_S (wA 21 a s.heap.size) s.heap s.heap [] := va_S.rf
  have hw3 : ∀ w ∈ wsX30, w.before ([.ref (a 0)] : List Value).toArray s = true := fun w hw => hts w ((by decide +kernel : ∀ w ∈ wsX30, w ∈ wsX3_fromMains) w hw)
  have hl := lv_entry ([.ref (a 0)]) (n := 1) (Nat.le_of_ble_eq_true rfl)
  rw [lg_entry_eq]
  generalize (lg_sl ([.ref (a 0)] : List Value) ++ List.replicate (1 - (lg_sl ([.ref (a 0)] : List Value)).length) Slot.unset).toArray = ls at hl ⊢
  have hl : lv_has ls 1 [(0, .ref (a 0))] := hl
  generalize hF : f_X3_fromMains  S = F
  have h : f_X3_fromMains  S = F := hF
  clear hF
  show W p l e ({ frames := 0, cells := 0, slots := 0, locals := 0 } : Room) s m ([.ref (a 0)] : List Value).toArray below meth c s.heap [] 0 0 (gQi below G (CW G.2 a) 21 a F ([.ref (a 0)] : List Value).toArray s) (F0 m 0 ls [])
  rewrite [f_X3_fromMains] at h
  refine lv_aload_n hx hb dX3_fromMains_0 rfl (lv_at hl 0 rfl) ?_
  refine cgM hx hb hw3 hown hK hP 12 (by decide) (v := .int (S.1 12)) rfl (hts (.fieldLink RX3 179 "BackupPower" "mainsEnergy" "I") (by decide +kernel)) dX3_fromMains_1 ?_
  exact gRi (wf := CW G.2 a) (S := S) hx hb hr hlocks hP hS h dX3_fromMains_4

def f_X3_fromGenerators (S : CS) : Int32 × CS := (S.1 13, S)
set_option maxHeartbeats 4000000 in
set_option maxRecDepth 100000 in
theorem c_X3_fromGenerators (l : Launch) (G : WG) (a : Nat → Nat) (ha : wInj 21 a)  (S : CS) (sz : Nat) : gMi l yX3_fromGenerators wsX3_fromGenerators ({ frames := 0, cells := 0, slots := 0, locals := 0 }) G 21 a (CW G.2 a) [.ref (a 0)] S sz (f_X3_fromGenerators  S) := by
  unfold gMi
  refine Met.ofW (cc := cX3_fromGenerators) (maxL := 1) (ret := (some .int)) (by decide) rfl ?_
  intro p e s m args below meth c s₁ B hml hv
  obtain ⟨rfl, rfl, hP, hK⟩ := hv
  have hx := B.exec
  have hb := B.bytes
  have hr := B.returns
  have hts := atoms_spec (ws := wsX3_fromGenerators) B.pre
  have hown : s.vm.findClass RX3 = some m.cls := findClass_of_methodNamed B.named
  have hlocks := B.notSynchronized
  have hS : va_S (wA 21 a s.heap.size) s.heap s.heap [] := va_S.rf
  have hw3 : ∀ w ∈ wsX30, w.before ([.ref (a 0)] : List Value).toArray s = true := fun w hw => hts w ((by decide +kernel : ∀ w ∈ wsX30, w ∈ wsX3_fromGenerators) w hw)
  have hl := lv_entry ([.ref (a 0)]) (n := 1) (Nat.le_of_ble_eq_true rfl)
  rw [lg_entry_eq]
  generalize (lg_sl ([.ref (a 0)] : List Value) ++ List.replicate (1 - (lg_sl ([.ref (a 0)] : List Value)).length) Slot.unset).toArray = ls at hl ⊢
  have hl : lv_has ls 1 [(0, .ref (a 0))] := hl
  generalize hF : f_X3_fromGenerators  S = F
  have h : f_X3_fromGenerators  S = F := hF
  clear hF
  show W p l e ({ frames := 0, cells := 0, slots := 0, locals := 0 } : Room) s m ([.ref (a 0)] : List Value).toArray below meth c s.heap [] 0 0 (gQi below G (CW G.2 a) 21 a F ([.ref (a 0)] : List Value).toArray s) (F0 m 0 ls [])
  rewrite [f_X3_fromGenerators] at h
  refine lv_aload_n hx hb dX3_fromGenerators_0 rfl (lv_at hl 0 rfl) ?_
  refine cgM hx hb hw3 hown hK hP 13 (by decide) (v := .int (S.1 13)) rfl (hts (.fieldLink RX3 182 "BackupPower" "generatorEnergy" "I") (by decide +kernel)) dX3_fromGenerators_1 ?_
  exact gRi (wf := CW G.2 a) (S := S) hx hb hr hlocks hP hS h dX3_fromGenerators_4

def f_X3_fromBatteries (S : CS) : Int32 × CS := (S.1 14, S)
set_option maxHeartbeats 4000000 in
set_option maxRecDepth 100000 in
theorem c_X3_fromBatteries (l : Launch) (G : WG) (a : Nat → Nat) (ha : wInj 21 a)  (S : CS) (sz : Nat) : gMi l yX3_fromBatteries wsX3_fromBatteries ({ frames := 0, cells := 0, slots := 0, locals := 0 }) G 21 a (CW G.2 a) [.ref (a 0)] S sz (f_X3_fromBatteries  S) := by
  unfold gMi
  refine Met.ofW (cc := cX3_fromBatteries) (maxL := 1) (ret := (some .int)) (by decide) rfl ?_
  intro p e s m args below meth c s₁ B hml hv
  obtain ⟨rfl, rfl, hP, hK⟩ := hv
  have hx := B.exec
  have hb := B.bytes
  have hr := B.returns
  have hts := atoms_spec (ws := wsX3_fromBatteries) B.pre
  have hown : s.vm.findClass RX3 = some m.cls := findClass_of_methodNamed B.named
  have hlocks := B.notSynchronized
  have hS : va_S (wA 21 a s.heap.size) s.heap s.heap [] := va_S.rf
  have hw3 : ∀ w ∈ wsX30, w.before ([.ref (a 0)] : List Value).toArray s = true := fun w hw => hts w ((by decide +kernel : ∀ w ∈ wsX30, w ∈ wsX3_fromBatteries) w hw)
  have hl := lv_entry ([.ref (a 0)]) (n := 1) (Nat.le_of_ble_eq_true rfl)
  rw [lg_entry_eq]
  generalize (lg_sl ([.ref (a 0)] : List Value) ++ List.replicate (1 - (lg_sl ([.ref (a 0)] : List Value)).length) Slot.unset).toArray = ls at hl ⊢
  have hl : lv_has ls 1 [(0, .ref (a 0))] := hl
  generalize hF : f_X3_fromBatteries  S = F
  have h : f_X3_fromBatteries  S = F := hF
  clear hF
  show W p l e ({ frames := 0, cells := 0, slots := 0, locals := 0 } : Room) s m ([.ref (a 0)] : List Value).toArray below meth c s.heap [] 0 0 (gQi below G (CW G.2 a) 21 a F ([.ref (a 0)] : List Value).toArray s) (F0 m 0 ls [])
  rewrite [f_X3_fromBatteries] at h
  refine lv_aload_n hx hb dX3_fromBatteries_0 rfl (lv_at hl 0 rfl) ?_
  refine cgM hx hb hw3 hown hK hP 14 (by decide) (v := .int (S.1 14)) rfl (hts (.fieldLink RX3 185 "BackupPower" "batteryEnergy" "I") (by decide +kernel)) dX3_fromBatteries_1 ?_
  exact gRi (wf := CW G.2 a) (S := S) hx hb hr hlocks hP hS h dX3_fromBatteries_4

def f_X3_intoBatteries (S : CS) : Int32 × CS := (S.1 15, S)
set_option maxHeartbeats 4000000 in
set_option maxRecDepth 100000 in
theorem c_X3_intoBatteries (l : Launch) (G : WG) (a : Nat → Nat) (ha : wInj 21 a)  (S : CS) (sz : Nat) : gMi l yX3_intoBatteries wsX3_intoBatteries ({ frames := 0, cells := 0, slots := 0, locals := 0 }) G 21 a (CW G.2 a) [.ref (a 0)] S sz (f_X3_intoBatteries  S) := by
  unfold gMi
  refine Met.ofW (cc := cX3_intoBatteries) (maxL := 1) (ret := (some .int)) (by decide) rfl ?_
  intro p e s m args below meth c s₁ B hml hv
  obtain ⟨rfl, rfl, hP, hK⟩ := hv
  have hx := B.exec
  have hb := B.bytes
  have hr := B.returns
  have hts := atoms_spec (ws := wsX3_intoBatteries) B.pre
  have hown : s.vm.findClass RX3 = some m.cls := findClass_of_methodNamed B.named
  have hlocks := B.notSynchronized
  have hS : va_S (wA 21 a s.heap.size) s.heap s.heap [] := va_S.rf
  have hw3 : ∀ w ∈ wsX30, w.before ([.ref (a 0)] : List Value).toArray s = true := fun w hw => hts w ((by decide +kernel : ∀ w ∈ wsX30, w ∈ wsX3_intoBatteries) w hw)
  have hl := lv_entry ([.ref (a 0)]) (n := 1) (Nat.le_of_ble_eq_true rfl)
  rw [lg_entry_eq]
  generalize (lg_sl ([.ref (a 0)] : List Value) ++ List.replicate (1 - (lg_sl ([.ref (a 0)] : List Value)).length) Slot.unset).toArray = ls at hl ⊢
  have hl : lv_has ls 1 [(0, .ref (a 0))] := hl
  generalize hF : f_X3_intoBatteries  S = F
  have h : f_X3_intoBatteries  S = F := hF
  clear hF
  show W p l e ({ frames := 0, cells := 0, slots := 0, locals := 0 } : Room) s m ([.ref (a 0)] : List Value).toArray below meth c s.heap [] 0 0 (gQi below G (CW G.2 a) 21 a F ([.ref (a 0)] : List Value).toArray s) (F0 m 0 ls [])
  rewrite [f_X3_intoBatteries] at h
  refine lv_aload_n hx hb dX3_intoBatteries_0 rfl (lv_at hl 0 rfl) ?_
  refine cgM hx hb hw3 hown hK hP 15 (by decide) (v := .int (S.1 15)) rfl (hts (.fieldLink RX3 188 "BackupPower" "chargedEnergy" "I") (by decide +kernel)) dX3_intoBatteries_1 ?_
  exact gRi (wf := CW G.2 a) (S := S) hx hb hr hlocks hP hS h dX3_intoBatteries_4

def f_X3_demand_b42 (K13 : Nat → CS → Int32 → Int32 × CS) (k13 : Nat) (S42 : CS) (v1_42 : Int32) : Int32 × CS := (K13 (k13 + 1) S42 v1_42)
def f_X3_demand_h13  : Nat → Nat → CS → Int32 → Int32 × CS
  | 0, _, S13, _ => (0, S13)
  | q + 1, k13, S13, v1_13 => (if 10 ≤ k13 then (v1_13, S13) else (if (S13.2.1 k13 3) = 1 then (f_X3_demand_b42 (f_X3_demand_h13  q) k13 S13 (v1_13 + (S13.2.1 k13 2))) else (f_X3_demand_b42 (f_X3_demand_h13  q) k13 S13 v1_13)))
def f_X3_demand (S : CS) : Int32 × CS := (f_X3_demand_h13  (11) 0 S 0)
set_option maxHeartbeats 4000000 in
set_option maxRecDepth 100000 in
theorem c_X3_demand (l : Launch) (G : WG) (a : Nat → Nat) (ha : wInj 21 a)  (S : CS) (sz : Nat) : gMi l yX3_demand wsX3_demand ({ frames := 0, cells := 0, slots := 0, locals := 0 }) G 21 a (CW G.2 a) [.ref (a 0)] S sz (f_X3_demand  S) := by
  unfold gMi
  refine Met.ofW (cc := cX3_demand) (maxL := 6) (ret := (some .int)) (by decide) rfl ?_
  intro p e s m args below meth c s₁ B hml hv
  obtain ⟨rfl, rfl, hP, hK⟩ := hv
  have hx := B.exec
  have hb := B.bytes
  have hr := B.returns
  have hts := atoms_spec (ws := wsX3_demand) B.pre
  have hown : s.vm.findClass RX3 = some m.cls := findClass_of_methodNamed B.named
  have hlocks := B.notSynchronized
  have hS : va_S (wA 21 a s.heap.size) s.heap s.heap [] := va_S.rf
  have hw2 : ∀ w ∈ wsX20, w.before ([.ref (a 0)] : List Value).toArray s = true := fun w hw => hts w ((by decide +kernel : ∀ w ∈ wsX20, w ∈ wsX3_demand) w hw)
  have hw3 : ∀ w ∈ wsX30, w.before ([.ref (a 0)] : List Value).toArray s = true := fun w hw => hts w ((by decide +kernel : ∀ w ∈ wsX30, w ∈ wsX3_demand) w hw)
  have hl := lv_entry ([.ref (a 0)]) (n := 6) (Nat.le_of_ble_eq_true rfl)
  rw [lg_entry_eq]
  generalize (lg_sl ([.ref (a 0)] : List Value) ++ List.replicate (6 - (lg_sl ([.ref (a 0)] : List Value)).length) Slot.unset).toArray = ls at hl ⊢
  have hl : lv_has ls 6 [(0, .ref (a 0))] := hl
  generalize hF : f_X3_demand  S = F
  have h : f_X3_demand  S = F := hF
  clear hF
  show W p l e ({ frames := 0, cells := 0, slots := 0, locals := 0 } : Room) s m ([.ref (a 0)] : List Value).toArray below meth c s.heap [] 0 0 (gQi below G (CW G.2 a) 21 a F ([.ref (a 0)] : List Value).toArray s) (F0 m 0 ls [])
  have L13 : ∀ (q13 : Nat) (k13 : Nat) (S13 : CS) (v1_13 : Int32), k13 ≤ 10 → 10 < k13 + q13 → f_X3_demand_h13  q13 k13 S13 v1_13 = F → ∀ (H : Heap) (locs : List Loc) (ls : Array Slot), wC G a S13 H → va_S (wA 21 a s.heap.size) s.heap H locs → lv_has ls 6 [(1, .int v1_13), (2, .ref (a 1)), (3, .int (nI 10)), (4, .int (nI k13))] → W p l e ({ frames := 0, cells := 0, slots := 0, locals := 0 } : Room) s m ([.ref (a 0)] : List Value).toArray below meth c H locs 0 0 (gQi below G (CW G.2 a) 21 a F ([.ref (a 0)] : List Value).toArray s) (F0 m 13 ls []) := by
    intro q13
    induction q13 with
    | zero => intro k13 S13 v1_13 hk13 hq13 h H locs ls hP hS hl; omega
    | succ q13 ih13 =>
      intro k13 S13 v1_13 hk13 hq13 h H locs ls hP hS hl
      have J42 : ∀ (S42 : CS) (v1_42 : Int32), (k13 < 10) → f_X3_demand_b42 (f_X3_demand_h13  q13) k13 S42 v1_42 = F → ∀ (H : Heap) (locs : List Loc) (ls : Array Slot), wC G a S42 H → va_S (wA 21 a s.heap.size) s.heap H locs → lv_has ls 6 [(1, .int v1_42), (2, .ref (a 1)), (3, .int (nI 10)), (4, .int (nI k13))] → W p l e ({ frames := 0, cells := 0, slots := 0, locals := 0 } : Room) s m ([.ref (a 0)] : List Value).toArray below meth c H locs 0 0 (gQi below G (CW G.2 a) 21 a F ([.ref (a 0)] : List Value).toArray s) (F0 m 42 ls []) := by
        intro S42 v1_42 hkb13 h H locs ls hP hS hl
        rewrite [f_X3_demand_b42] at h
        refine lv_iinc (k := 3) (v := nI (k13 + 1)) (lv' := [(4, .int (nI (k13 + 1))), (1, .int v1_42), (2, .ref (a 1)), (3, .int (nI 10))]) hx hb dX3_demand_42 hl rfl (nI_inc _) (by decide) rfl (fun ls hl => ?_)
        refine lv_goto (tgt := 13) hx hb dX3_demand_45 (by decide) ?_
        exact ih13 (k13 + 1) S42 v1_42 (by omega) (by omega) h _ _ _ hP hS (lv_sub hl [1, 2, 3, 0] rfl)
      rewrite [f_X3_demand_h13] at h
      refine lv_iload hx hb dX3_demand_13 (lv_at hl 3 rfl) ?_
      refine lv_iload_n hx hb dX3_demand_15 rfl (lv_at hl 2 rfl) ?_
      refine lv_icmp_ge (tgt := 48) hx hb dX3_demand_16 (by decide) (fun c16 => ?_) (fun c16 => ?_)
      · have c16 : 10 ≤ k13 := (nI_leI (a := 10) (b := k13) (by omega) (by omega)).mp c16
        rewrite [if_pos c16] at h
        refine lv_iload_n hx hb dX3_demand_48 rfl (lv_at hl 0 rfl) ?_
        exact gRi (wf := CW G.2 a) (S := S13) hx hb hr hlocks hP hS h dX3_demand_49
      · have c16 : ¬ 10 ≤ k13 := fun z => c16 ((nI_leI (a := 10) (b := k13) (by omega) (by omega)).mpr z)
        rewrite [if_neg c16] at h
        refine lv_aload_n hx hb dX3_demand_19 rfl (lv_at hl 1 rfl) ?_
        refine lv_iload hx hb dX3_demand_20 (lv_at hl 3 rfl) ?_
        refine crdL hx hb hK hP (k := k13) (by omega) dX3_demand_22 ?_
        refine lv_astore (lv' := [(5, .ref (a (4 + k13))), (1, .int v1_13), (2, .ref (a 1)), (3, .int (nI 10)), (4, .int (nI k13))]) hx hb dX3_demand_23 hl (by decide) rfl (fun ls hl => ?_)
        refine lv_aload hx hb dX3_demand_25 (lv_at hl 0 rfl) ?_
        refine cgL hx hb hw2 hown hK hP (i := k13) (by omega) 3 (by decide) (hts (.fieldLink RX3 89 "BackupPower$Load" "state" "I") (by decide +kernel)) dX3_demand_27 ?_
        refine lv_iconst (v := 1) hx hb dX3_demand_30 (by decide) ?_
        refine lv_icmp_ne (tgt := 42) hx hb dX3_demand_31 (by decide) (fun c31 => ?_) (fun c31 => ?_)
        · rewrite [if_neg c31] at h
          exact J42 S13 v1_13 (by omega) h _ _ _ hP hS (lv_sub hl [1, 2, 3, 4] rfl)
        · rewrite [if_pos c31] at h
          refine lv_iload_n hx hb dX3_demand_34 rfl (lv_at hl 1 rfl) ?_
          refine lv_aload hx hb dX3_demand_35 (lv_at hl 0 rfl) ?_
          refine cgL hx hb hw2 hown hK hP (i := k13) (by omega) 2 (by decide) (hts (.fieldLink RX3 94 "BackupPower$Load" "power" "I") (by decide +kernel)) dX3_demand_37 ?_
          refine lv_iadd hx hb dX3_demand_40 ?_
          refine lv_istore_n (lv' := [(1, .int (v1_13 + (S13.2.1 k13 2))), (5, .ref (a (4 + k13))), (2, .ref (a 1)), (3, .int (nI 10)), (4, .int (nI k13))]) hx hb dX3_demand_41 rfl hl (by decide) rfl (fun ls hl => ?_)
          exact J42 S13 (v1_13 + (S13.2.1 k13 2)) (by omega) h _ _ _ hP hS (lv_sub hl [0, 2, 3, 4] rfl)
  rewrite [f_X3_demand] at h
  refine lv_iconst (v := 0) hx hb dX3_demand_0 (by decide) ?_
  refine lv_istore_n (lv' := [(1, .int 0), (0, .ref (a 0))]) hx hb dX3_demand_1 rfl hl (by decide) rfl (fun ls hl => ?_)
  refine lv_aload_n hx hb dX3_demand_2 rfl (lv_at hl 1 rfl) ?_
  refine cgM hx hb hw3 hown hK hP 0 (by decide) (v := .ref (a 1)) rfl (hts (.fieldLink RX3 11 "BackupPower" "loads" "[LBackupPower$Load;") (by decide +kernel)) dX3_demand_3 ?_
  refine lv_astore_n (lv' := [(2, .ref (a 1)), (1, .int 0), (0, .ref (a 0))]) hx hb dX3_demand_6 rfl hl (by decide) rfl (fun ls hl => ?_)
  refine lv_aload_n hx hb dX3_demand_7 rfl (lv_at hl 0 rfl) ?_
  refine clL hx hb hK hP dX3_demand_8 ?_
  refine lv_istore_n (lv' := [(3, .int (nI 10)), (2, .ref (a 1)), (1, .int 0), (0, .ref (a 0))]) hx hb dX3_demand_9 rfl hl (by decide) rfl (fun ls hl => ?_)
  refine lv_iconst (v := 0) hx hb dX3_demand_10 (by decide) ?_
  refine lv_istore (lv' := [(4, .int 0), (3, .int (nI 10)), (2, .ref (a 1)), (1, .int 0), (0, .ref (a 0))]) hx hb dX3_demand_11 hl (by decide) rfl (fun ls hl => ?_)
  exact L13 (11) 0 S 0 (by omega) (by omega) h _ _ _ hP hS (lv_sub hl [3, 2, 1, 0] rfl)

def f_X3_sumGeneratorPower_b41 (K13 : Nat → CS → Int32 → Int32 × CS) (k13 : Nat) (S41 : CS) (v1_41 : Int32) : Int32 × CS := (K13 (k13 + 1) S41 v1_41)
def f_X3_sumGeneratorPower_c27 (K13 : Nat → CS → Int32 → Int32 × CS) (k13 : Nat) (v1_13 : Int32) (p27 : Int32 × CS) : Int32 × CS := (if p27.1 = 0 then (f_X3_sumGeneratorPower_b41 K13 k13 p27.2 v1_13) else (f_X3_sumGeneratorPower_b41 K13 k13 p27.2 (v1_13 + (p27.2.2.2.2 k13 0))))
def f_X3_sumGeneratorPower_h13  : Nat → Nat → CS → Int32 → Int32 × CS
  | 0, _, S13, _ => (0, S13)
  | q + 1, k13, S13, v1_13 => (if 3 ≤ k13 then (v1_13, S13) else (f_X3_sumGeneratorPower_c27  (f_X3_sumGeneratorPower_h13  q) k13 v1_13 (f_X1_isSupplying k13 S13)))
def f_X3_sumGeneratorPower (S : CS) : Int32 × CS := (f_X3_sumGeneratorPower_h13  (4) 0 S 0)
set_option maxHeartbeats 4000000 in
set_option maxRecDepth 100000 in
theorem c_X3_sumGeneratorPower (l : Launch) (G : WG) (a : Nat → Nat) (ha : wInj 21 a)  (S : CS) (sz : Nat) : gMi l yX3_sumGeneratorPower wsX3_sumGeneratorPower ({ frames := 1, cells := 0, slots := 0, locals := 20 }) G 21 a (CW G.2 a) [.ref (a 0)] S sz (f_X3_sumGeneratorPower  S) := by
  unfold gMi
  refine Met.ofW (cc := cX3_sumGeneratorPower) (maxL := 6) (ret := (some .int)) (by decide) rfl ?_
  intro p e s m args below meth c s₁ B hml hv
  obtain ⟨rfl, rfl, hP, hK⟩ := hv
  have hx := B.exec
  have hb := B.bytes
  have hr := B.returns
  have hts := atoms_spec (ws := wsX3_sumGeneratorPower) B.pre
  have hown : s.vm.findClass RX3 = some m.cls := findClass_of_methodNamed B.named
  have hlocks := B.notSynchronized
  have hS : va_S (wA 21 a s.heap.size) s.heap s.heap [] := va_S.rf
  have hw1 : ∀ w ∈ wsX10, w.before ([.ref (a 0)] : List Value).toArray s = true := fun w hw => hts w ((by decide +kernel : ∀ w ∈ wsX10, w ∈ wsX3_sumGeneratorPower) w hw)
  have hw3 : ∀ w ∈ wsX30, w.before ([.ref (a 0)] : List Value).toArray s = true := fun w hw => hts w ((by decide +kernel : ∀ w ∈ wsX30, w ∈ wsX3_sumGeneratorPower) w hw)
  have hl := lv_entry ([.ref (a 0)]) (n := 6) (Nat.le_of_ble_eq_true rfl)
  rw [lg_entry_eq]
  generalize (lg_sl ([.ref (a 0)] : List Value) ++ List.replicate (6 - (lg_sl ([.ref (a 0)] : List Value)).length) Slot.unset).toArray = ls at hl ⊢
  have hl : lv_has ls 6 [(0, .ref (a 0))] := hl
  generalize hF : f_X3_sumGeneratorPower  S = F
  have h : f_X3_sumGeneratorPower  S = F := hF
  clear hF
  show W p l e ({ frames := 1, cells := 0, slots := 0, locals := 20 } : Room) s m ([.ref (a 0)] : List Value).toArray below meth c s.heap [] 0 0 (gQi below G (CW G.2 a) 21 a F ([.ref (a 0)] : List Value).toArray s) (F0 m 0 ls [])
  have L13 : ∀ (q13 : Nat) (k13 : Nat) (S13 : CS) (v1_13 : Int32), k13 ≤ 3 → 3 < k13 + q13 → f_X3_sumGeneratorPower_h13  q13 k13 S13 v1_13 = F → ∀ (H : Heap) (locs : List Loc) (ls : Array Slot), wC G a S13 H → va_S (wA 21 a s.heap.size) s.heap H locs → lv_has ls 6 [(1, .int v1_13), (2, .ref (a 3)), (3, .int (nI 3)), (4, .int (nI k13))] → W p l e ({ frames := 1, cells := 0, slots := 0, locals := 20 } : Room) s m ([.ref (a 0)] : List Value).toArray below meth c H locs 0 0 (gQi below G (CW G.2 a) 21 a F ([.ref (a 0)] : List Value).toArray s) (F0 m 13 ls []) := by
    intro q13
    induction q13 with
    | zero => intro k13 S13 v1_13 hk13 hq13 h H locs ls hP hS hl; omega
    | succ q13 ih13 =>
      intro k13 S13 v1_13 hk13 hq13 h H locs ls hP hS hl
      have J41 : ∀ (S41 : CS) (v1_41 : Int32), (k13 < 3) → f_X3_sumGeneratorPower_b41 (f_X3_sumGeneratorPower_h13  q13) k13 S41 v1_41 = F → ∀ (H : Heap) (locs : List Loc) (ls : Array Slot), wC G a S41 H → va_S (wA 21 a s.heap.size) s.heap H locs → lv_has ls 6 [(1, .int v1_41), (2, .ref (a 3)), (3, .int (nI 3)), (4, .int (nI k13))] → W p l e ({ frames := 1, cells := 0, slots := 0, locals := 20 } : Room) s m ([.ref (a 0)] : List Value).toArray below meth c H locs 0 0 (gQi below G (CW G.2 a) 21 a F ([.ref (a 0)] : List Value).toArray s) (F0 m 41 ls []) := by
        intro S41 v1_41 hkb13 h H locs ls hP hS hl
        rewrite [f_X3_sumGeneratorPower_b41] at h
        refine lv_iinc (k := 3) (v := nI (k13 + 1)) (lv' := [(4, .int (nI (k13 + 1))), (1, .int v1_41), (2, .ref (a 3)), (3, .int (nI 3))]) hx hb dX3_sumGeneratorPower_41 hl rfl (nI_inc _) (by decide) rfl (fun ls hl => ?_)
        refine lv_goto (tgt := 13) hx hb dX3_sumGeneratorPower_44 (by decide) ?_
        exact ih13 (k13 + 1) S41 v1_41 (by omega) (by omega) h _ _ _ hP hS (lv_sub hl [1, 2, 3, 0] rfl)
      rewrite [f_X3_sumGeneratorPower_h13] at h
      refine lv_iload hx hb dX3_sumGeneratorPower_13 (lv_at hl 3 rfl) ?_
      refine lv_iload_n hx hb dX3_sumGeneratorPower_15 rfl (lv_at hl 2 rfl) ?_
      refine lv_icmp_ge (tgt := 47) hx hb dX3_sumGeneratorPower_16 (by decide) (fun c16 => ?_) (fun c16 => ?_)
      · have c16 : 3 ≤ k13 := (nI_leI (a := 3) (b := k13) (by omega) (by omega)).mp c16
        rewrite [if_pos c16] at h
        refine lv_iload_n hx hb dX3_sumGeneratorPower_47 rfl (lv_at hl 0 rfl) ?_
        exact gRi (wf := CW G.2 a) (S := S13) hx hb hr hlocks hP hS h dX3_sumGeneratorPower_48
      · have c16 : ¬ 3 ≤ k13 := fun z => c16 ((nI_leI (a := 3) (b := k13) (by omega) (by omega)).mpr z)
        rewrite [if_neg c16] at h
        refine lv_aload_n hx hb dX3_sumGeneratorPower_19 rfl (lv_at hl 1 rfl) ?_
        refine lv_iload hx hb dX3_sumGeneratorPower_20 (lv_at hl 3 rfl) ?_
        refine crdG hx hb hK hP (k := k13) (by omega) dX3_sumGeneratorPower_22 ?_
        refine lv_astore (lv' := [(5, .ref (a (17 + k13))), (1, .int v1_13), (2, .ref (a 3)), (3, .int (nI 3)), (4, .int (nI k13))]) hx hb dX3_sumGeneratorPower_23 hl (by decide) rfl (fun ls hl => ?_)
        refine lv_aload hx hb dX3_sumGeneratorPower_25 (lv_at hl 0 rfl) ?_
        refine gcVz (wf := CW G.2 a) (N := 21) (ad := a) (As := []) (rest := []) (S := S13) ⟨hx, hb, hml, hown, hts⟩ hK hP hS (c_X1_isSupplying l G a ha k13 (by omega) S13 _) (cwV 0 hts gX3_sumGeneratorPower_X1_isSupplying rfl rfl rfl (by decide +kernel) ⟨Nat.le_of_ble_eq_true rfl, Nat.le_of_ble_eq_true rfl⟩) (crG hK hP (i := k13) (by omega)) rfl hl.1 rfl (Nat.le_of_ble_eq_true rfl) dX3_sumGeneratorPower_27 ⟨Nat.le_of_ble_eq_true rfl, Nat.le_of_ble_eq_true rfl⟩ (fun p27 H locs ep27 hbp27 hP hS => ?_)
        rewrite [← ep27] at h
        rewrite [f_X3_sumGeneratorPower_c27] at h
        refine lv_if_eq (tgt := 41) hx hb dX3_sumGeneratorPower_30 (by decide) (fun c30 => ?_) (fun c30 => ?_)
        · rewrite [if_pos c30] at h
          exact J41 p27.2 v1_13 (by omega) h _ _ _ hP hS (lv_sub hl [1, 2, 3, 4] rfl)
        · rewrite [if_neg c30] at h
          refine lv_iload_n hx hb dX3_sumGeneratorPower_33 rfl (lv_at hl 1 rfl) ?_
          refine lv_aload hx hb dX3_sumGeneratorPower_34 (lv_at hl 0 rfl) ?_
          refine cgG hx hb hw1 hown hK hP (i := k13) (by omega) 0 (by decide) (hts (.fieldLink RX3 294 "BackupPower$Generator" "power" "I") (by decide +kernel)) dX3_sumGeneratorPower_36 ?_
          refine lv_iadd hx hb dX3_sumGeneratorPower_39 ?_
          refine lv_istore_n (lv' := [(1, .int (v1_13 + (p27.2.2.2.2 k13 0))), (5, .ref (a (17 + k13))), (2, .ref (a 3)), (3, .int (nI 3)), (4, .int (nI k13))]) hx hb dX3_sumGeneratorPower_40 rfl hl (by decide) rfl (fun ls hl => ?_)
          exact J41 p27.2 (v1_13 + (p27.2.2.2.2 k13 0)) (by omega) h _ _ _ hP hS (lv_sub hl [0, 2, 3, 4] rfl)
  rewrite [f_X3_sumGeneratorPower] at h
  refine lv_iconst (v := 0) hx hb dX3_sumGeneratorPower_0 (by decide) ?_
  refine lv_istore_n (lv' := [(1, .int 0), (0, .ref (a 0))]) hx hb dX3_sumGeneratorPower_1 rfl hl (by decide) rfl (fun ls hl => ?_)
  refine lv_aload_n hx hb dX3_sumGeneratorPower_2 rfl (lv_at hl 1 rfl) ?_
  refine cgM hx hb hw3 hown hK hP 2 (by decide) (v := .ref (a 3)) rfl (hts (.fieldLink RX3 23 "BackupPower" "generators" "[LBackupPower$Generator;") (by decide +kernel)) dX3_sumGeneratorPower_3 ?_
  refine lv_astore_n (lv' := [(2, .ref (a 3)), (1, .int 0), (0, .ref (a 0))]) hx hb dX3_sumGeneratorPower_6 rfl hl (by decide) rfl (fun ls hl => ?_)
  refine lv_aload_n hx hb dX3_sumGeneratorPower_7 rfl (lv_at hl 0 rfl) ?_
  refine clG hx hb hK hP dX3_sumGeneratorPower_8 ?_
  refine lv_istore_n (lv' := [(3, .int (nI 3)), (2, .ref (a 3)), (1, .int 0), (0, .ref (a 0))]) hx hb dX3_sumGeneratorPower_9 rfl hl (by decide) rfl (fun ls hl => ?_)
  refine lv_iconst (v := 0) hx hb dX3_sumGeneratorPower_10 (by decide) ?_
  refine lv_istore (lv' := [(4, .int 0), (3, .int (nI 3)), (2, .ref (a 3)), (1, .int 0), (0, .ref (a 0))]) hx hb dX3_sumGeneratorPower_11 hl (by decide) rfl (fun ls hl => ?_)
  exact L13 (4) 0 S 0 (by omega) (by omega) h _ _ _ hP hS (lv_sub hl [3, 2, 1, 0] rfl)

def f_X3_sumBatteryPower_c28 (K13 : Nat → CS → Int32 → Int32 × CS) (k13 : Nat) (v1_13 : Int32) (p28 : Int32 × CS) : Int32 × CS := (K13 (k13 + 1) p28.2 (v1_13 + p28.1))
def f_X3_sumBatteryPower_h13  : Nat → Nat → CS → Int32 → Int32 × CS
  | 0, _, S13, _ => (0, S13)
  | q + 1, k13, S13, v1_13 => (if 3 ≤ k13 then (v1_13, S13) else (f_X3_sumBatteryPower_c28  (f_X3_sumBatteryPower_h13  q) k13 v1_13 (f_X0_canGive k13 S13)))
def f_X3_sumBatteryPower (S : CS) : Int32 × CS := (f_X3_sumBatteryPower_h13  (4) 0 S 0)
set_option maxHeartbeats 4000000 in
set_option maxRecDepth 100000 in
theorem c_X3_sumBatteryPower (l : Launch) (G : WG) (a : Nat → Nat) (ha : wInj 21 a)  (S : CS) (sz : Nat) : gMi l yX3_sumBatteryPower wsX3_sumBatteryPower ({ frames := 2, cells := 0, slots := 0, locals := 41 }) G 21 a (CW G.2 a) [.ref (a 0)] S sz (f_X3_sumBatteryPower  S) := by
  unfold gMi
  refine Met.ofW (cc := cX3_sumBatteryPower) (maxL := 6) (ret := (some .int)) (by decide) rfl ?_
  intro p e s m args below meth c s₁ B hml hv
  obtain ⟨rfl, rfl, hP, hK⟩ := hv
  have hx := B.exec
  have hb := B.bytes
  have hr := B.returns
  have hts := atoms_spec (ws := wsX3_sumBatteryPower) B.pre
  have hown : s.vm.findClass RX3 = some m.cls := findClass_of_methodNamed B.named
  have hlocks := B.notSynchronized
  have hS : va_S (wA 21 a s.heap.size) s.heap s.heap [] := va_S.rf
  have hw3 : ∀ w ∈ wsX30, w.before ([.ref (a 0)] : List Value).toArray s = true := fun w hw => hts w ((by decide +kernel : ∀ w ∈ wsX30, w ∈ wsX3_sumBatteryPower) w hw)
  have hl := lv_entry ([.ref (a 0)]) (n := 6) (Nat.le_of_ble_eq_true rfl)
  rw [lg_entry_eq]
  generalize (lg_sl ([.ref (a 0)] : List Value) ++ List.replicate (6 - (lg_sl ([.ref (a 0)] : List Value)).length) Slot.unset).toArray = ls at hl ⊢
  have hl : lv_has ls 6 [(0, .ref (a 0))] := hl
  generalize hF : f_X3_sumBatteryPower  S = F
  have h : f_X3_sumBatteryPower  S = F := hF
  clear hF
  show W p l e ({ frames := 2, cells := 0, slots := 0, locals := 41 } : Room) s m ([.ref (a 0)] : List Value).toArray below meth c s.heap [] 0 0 (gQi below G (CW G.2 a) 21 a F ([.ref (a 0)] : List Value).toArray s) (F0 m 0 ls [])
  have L13 : ∀ (q13 : Nat) (k13 : Nat) (S13 : CS) (v1_13 : Int32), k13 ≤ 3 → 3 < k13 + q13 → f_X3_sumBatteryPower_h13  q13 k13 S13 v1_13 = F → ∀ (H : Heap) (locs : List Loc) (ls : Array Slot), wC G a S13 H → va_S (wA 21 a s.heap.size) s.heap H locs → lv_has ls 6 [(1, .int v1_13), (2, .ref (a 2)), (3, .int (nI 3)), (4, .int (nI k13))] → W p l e ({ frames := 2, cells := 0, slots := 0, locals := 41 } : Room) s m ([.ref (a 0)] : List Value).toArray below meth c H locs 0 0 (gQi below G (CW G.2 a) 21 a F ([.ref (a 0)] : List Value).toArray s) (F0 m 13 ls []) := by
    intro q13
    induction q13 with
    | zero => intro k13 S13 v1_13 hk13 hq13 h H locs ls hP hS hl; omega
    | succ q13 ih13 =>
      intro k13 S13 v1_13 hk13 hq13 h H locs ls hP hS hl
      rewrite [f_X3_sumBatteryPower_h13] at h
      refine lv_iload hx hb dX3_sumBatteryPower_13 (lv_at hl 3 rfl) ?_
      refine lv_iload_n hx hb dX3_sumBatteryPower_15 rfl (lv_at hl 2 rfl) ?_
      refine lv_icmp_ge (tgt := 39) hx hb dX3_sumBatteryPower_16 (by decide) (fun c16 => ?_) (fun c16 => ?_)
      · have c16 : 3 ≤ k13 := (nI_leI (a := 3) (b := k13) (by omega) (by omega)).mp c16
        rewrite [if_pos c16] at h
        refine lv_iload_n hx hb dX3_sumBatteryPower_39 rfl (lv_at hl 0 rfl) ?_
        exact gRi (wf := CW G.2 a) (S := S13) hx hb hr hlocks hP hS h dX3_sumBatteryPower_40
      · have c16 : ¬ 3 ≤ k13 := fun z => c16 ((nI_leI (a := 3) (b := k13) (by omega) (by omega)).mpr z)
        rewrite [if_neg c16] at h
        refine lv_aload_n hx hb dX3_sumBatteryPower_19 rfl (lv_at hl 1 rfl) ?_
        refine lv_iload hx hb dX3_sumBatteryPower_20 (lv_at hl 3 rfl) ?_
        refine crdB hx hb hK hP (k := k13) (by omega) dX3_sumBatteryPower_22 ?_
        refine lv_astore (lv' := [(5, .ref (a (14 + k13))), (1, .int v1_13), (2, .ref (a 2)), (3, .int (nI 3)), (4, .int (nI k13))]) hx hb dX3_sumBatteryPower_23 hl (by decide) rfl (fun ls hl => ?_)
        refine lv_iload_n hx hb dX3_sumBatteryPower_25 rfl (lv_at hl 1 rfl) ?_
        refine lv_aload hx hb dX3_sumBatteryPower_26 (lv_at hl 0 rfl) ?_
        refine gcVi (wf := CW G.2 a) (N := 21) (ad := a) (As := []) (rest := [.int v1_13]) (S := S13) ⟨hx, hb, hml, hown, hts⟩ hK hP hS (c_X0_canGive l G a ha k13 (by omega) S13 _) (cwV 0 hts gX3_sumBatteryPower_X0_canGive rfl rfl rfl (by decide +kernel) ⟨Nat.le_of_ble_eq_true rfl, Nat.le_of_ble_eq_true rfl⟩) (crB hK hP (i := k13) (by omega)) rfl hl.1 rfl (Nat.le_of_ble_eq_true rfl) dX3_sumBatteryPower_28 ⟨Nat.le_of_ble_eq_true rfl, Nat.le_of_ble_eq_true rfl⟩ (fun p28 H locs ep28 hP hS => ?_)
        rewrite [← ep28] at h
        rewrite [f_X3_sumBatteryPower_c28] at h
        refine lv_iadd hx hb dX3_sumBatteryPower_31 ?_
        refine lv_istore_n (lv' := [(1, .int (v1_13 + p28.1)), (5, .ref (a (14 + k13))), (2, .ref (a 2)), (3, .int (nI 3)), (4, .int (nI k13))]) hx hb dX3_sumBatteryPower_32 rfl hl (by decide) rfl (fun ls hl => ?_)
        refine lv_iinc (k := 4) (v := nI (k13 + 1)) (lv' := [(4, .int (nI (k13 + 1))), (1, .int (v1_13 + p28.1)), (5, .ref (a (14 + k13))), (2, .ref (a 2)), (3, .int (nI 3))]) hx hb dX3_sumBatteryPower_33 hl rfl (nI_inc _) (by decide) rfl (fun ls hl => ?_)
        refine lv_goto (tgt := 13) hx hb dX3_sumBatteryPower_36 (by decide) ?_
        exact ih13 (k13 + 1) p28.2 (v1_13 + p28.1) (by omega) (by omega) h _ _ _ hP hS (lv_sub hl [1, 3, 4, 0] rfl)
  rewrite [f_X3_sumBatteryPower] at h
  refine lv_iconst (v := 0) hx hb dX3_sumBatteryPower_0 (by decide) ?_
  refine lv_istore_n (lv' := [(1, .int 0), (0, .ref (a 0))]) hx hb dX3_sumBatteryPower_1 rfl hl (by decide) rfl (fun ls hl => ?_)
  refine lv_aload_n hx hb dX3_sumBatteryPower_2 rfl (lv_at hl 1 rfl) ?_
  refine cgM hx hb hw3 hown hK hP 1 (by decide) (v := .ref (a 2)) rfl (hts (.fieldLink RX3 17 "BackupPower" "batteries" "[LBackupPower$Battery;") (by decide +kernel)) dX3_sumBatteryPower_3 ?_
  refine lv_astore_n (lv' := [(2, .ref (a 2)), (1, .int 0), (0, .ref (a 0))]) hx hb dX3_sumBatteryPower_6 rfl hl (by decide) rfl (fun ls hl => ?_)
  refine lv_aload_n hx hb dX3_sumBatteryPower_7 rfl (lv_at hl 0 rfl) ?_
  refine clB hx hb hK hP dX3_sumBatteryPower_8 ?_
  refine lv_istore_n (lv' := [(3, .int (nI 3)), (2, .ref (a 2)), (1, .int 0), (0, .ref (a 0))]) hx hb dX3_sumBatteryPower_9 rfl hl (by decide) rfl (fun ls hl => ?_)
  refine lv_iconst (v := 0) hx hb dX3_sumBatteryPower_10 (by decide) ?_
  refine lv_istore (lv' := [(4, .int 0), (3, .int (nI 3)), (2, .ref (a 2)), (1, .int 0), (0, .ref (a 0))]) hx hb dX3_sumBatteryPower_11 hl (by decide) rfl (fun ls hl => ?_)
  exact L13 (4) 0 S 0 (by omega) (by omega) h _ _ _ hP hS (lv_sub hl [3, 2, 1, 0] rfl)

def f_X3_firstInOrder_b52 (x1 : Int32) (K14 : Nat → CS → Option Nat → Option Nat × CS) (k14 : Nat) : CS → Option Nat → Option Nat × CS
  | S52, none => (K14 (k14 + 1) S52 none)
  | S52, some jv2_52 => (K14 (k14 + 1) S52 (some jv2_52))
def f_X3_firstInOrder_b49 (x1 : Int32) (K14 : Nat → CS → Option Nat → Option Nat × CS) (k14 : Nat) (S49 : CS) : Option Nat × CS := (f_X3_firstInOrder_b52 x1 K14 k14 S49 (some k14))
def f_X3_firstInOrder_c43 (x1 : Int32) (K14 : Nat → CS → Option Nat → Option Nat × CS) (k14 : Nat) (jv2_14 : Nat) (p43 : Int32 × CS) : Option Nat × CS := (if p43.1 = 0 then (f_X3_firstInOrder_b52 x1 K14 k14 p43.2 (some jv2_14)) else (f_X3_firstInOrder_b49 x1 K14 k14 p43.2))
def f_X3_firstInOrder_h14 (x1 : Int32) : Nat → Nat → CS → Option Nat → Option Nat × CS
  | 0, _, S14, _ => (none, S14)
  | q + 1, k14, S14, none => (if 10 ≤ k14 then (none, S14) else (if (S14.2.1 k14 3) = x1 then (f_X3_firstInOrder_b49 x1 (f_X3_firstInOrder_h14 x1 q) k14 S14) else (f_X3_firstInOrder_b52 x1 (f_X3_firstInOrder_h14 x1 q) k14 S14 none)))
  | q + 1, k14, S14, some jv2_14 => (if 10 ≤ k14 then (some jv2_14, S14) else (if (S14.2.1 k14 3) = x1 then (f_X3_firstInOrder_c43 x1 (f_X3_firstInOrder_h14 x1 q) k14 jv2_14 (f_X2_goesAheadOf k14 jv2_14 S14)) else (f_X3_firstInOrder_b52 x1 (f_X3_firstInOrder_h14 x1 q) k14 S14 (some jv2_14))))
def f_X3_firstInOrder (x1 : Int32) (S : CS) : Option Nat × CS := (f_X3_firstInOrder_h14 x1 (11) 0 S none)
set_option maxHeartbeats 4000000 in
set_option maxRecDepth 100000 in
theorem c_X3_firstInOrder (l : Launch) (G : WG) (a : Nat → Nat) (ha : wInj 21 a) (x1 : Int32) (S : CS) (sz : Nat) : gMq l yX3_firstInOrder wsX3_firstInOrder ({ frames := 2, cells := 0, slots := 0, locals := 42 }) G 21 a (CW G.2 a) (fun j => a (4 + j)) 10 [.ref (a 0), .int x1] S sz (f_X3_firstInOrder x1 S) := by
  unfold gMq
  refine Met.ofW (cc := cX3_firstInOrder) (maxL := 7) (ret := (some (.object "BackupPower$Load"))) (by decide) rfl ?_
  intro p e s m args below meth c s₁ B hml hv
  obtain ⟨rfl, rfl, hP, hK⟩ := hv
  have hx := B.exec
  have hb := B.bytes
  have hr := B.returns
  have hts := atoms_spec (ws := wsX3_firstInOrder) B.pre
  have hown : s.vm.findClass RX3 = some m.cls := findClass_of_methodNamed B.named
  have hlocks := B.notSynchronized
  have hS : va_S (wA 21 a s.heap.size) s.heap s.heap [] := va_S.rf
  have hw2 : ∀ w ∈ wsX20, w.before ([.ref (a 0), .int x1] : List Value).toArray s = true := fun w hw => hts w ((by decide +kernel : ∀ w ∈ wsX20, w ∈ wsX3_firstInOrder) w hw)
  have hw3 : ∀ w ∈ wsX30, w.before ([.ref (a 0), .int x1] : List Value).toArray s = true := fun w hw => hts w ((by decide +kernel : ∀ w ∈ wsX30, w ∈ wsX3_firstInOrder) w hw)
  have hl := lv_entry ([.ref (a 0), .int x1]) (n := 7) (Nat.le_of_ble_eq_true rfl)
  rw [lg_entry_eq]
  generalize (lg_sl ([.ref (a 0), .int x1] : List Value) ++ List.replicate (7 - (lg_sl ([.ref (a 0), .int x1] : List Value)).length) Slot.unset).toArray = ls at hl ⊢
  have hl : lv_has ls 7 [(0, .ref (a 0)), (1, .int x1)] := hl
  generalize hF : f_X3_firstInOrder x1 S = F
  have h : f_X3_firstInOrder x1 S = F := hF
  clear hF
  show W p l e ({ frames := 2, cells := 0, slots := 0, locals := 42 } : Room) s m ([.ref (a 0), .int x1] : List Value).toArray below meth c s.heap [] 0 0 (gQq below G (CW G.2 a) 21 a (fun j => a (4 + j)) 10 F ([.ref (a 0), .int x1] : List Value).toArray s) (F0 m 0 ls [])
  have L14 : ∀ (q14 : Nat) (k14 : Nat) (S14 : CS) (v2_14 : Option Nat), (∀ j, v2_14 = some j → j < 10) → k14 ≤ 10 → 10 < k14 + q14 → f_X3_firstInOrder_h14 x1 q14 k14 S14 v2_14 = F → ∀ (H : Heap) (locs : List Loc) (ls : Array Slot), wC G a S14 H → va_S (wA 21 a s.heap.size) s.heap H locs → lv_has ls 7 [(1, .int x1), (2, va_rf (v2_14.map (fun j => a (4 + j)))), (3, .ref (a 1)), (4, .int (nI 10)), (5, .int (nI k14))] → W p l e ({ frames := 2, cells := 0, slots := 0, locals := 42 } : Room) s m ([.ref (a 0), .int x1] : List Value).toArray below meth c H locs 0 0 (gQq below G (CW G.2 a) 21 a (fun j => a (4 + j)) 10 F ([.ref (a 0), .int x1] : List Value).toArray s) (F0 m 14 ls []) := by
    intro q14
    induction q14 with
    | zero => intro k14 S14 v2_14 hv2_14 hk14 hq14 h H locs ls hP hS hl; omega
    | succ q14 ih14 =>
      intro k14 S14 v2_14 hv2_14 hk14 hq14 h H locs ls hP hS hl
      have J52 : ∀ (S52 : CS) (v2_52 : Option Nat), (∀ j, v2_52 = some j → j < 10) → (k14 < 10) → f_X3_firstInOrder_b52 x1 (f_X3_firstInOrder_h14 x1 q14) k14 S52 v2_52 = F → ∀ (H : Heap) (locs : List Loc) (ls : Array Slot), wC G a S52 H → va_S (wA 21 a s.heap.size) s.heap H locs → lv_has ls 7 [(1, .int x1), (2, va_rf (v2_52.map (fun j => a (4 + j)))), (3, .ref (a 1)), (4, .int (nI 10)), (5, .int (nI k14))] → W p l e ({ frames := 2, cells := 0, slots := 0, locals := 42 } : Room) s m ([.ref (a 0), .int x1] : List Value).toArray below meth c H locs 0 0 (gQq below G (CW G.2 a) 21 a (fun j => a (4 + j)) 10 F ([.ref (a 0), .int x1] : List Value).toArray s) (F0 m 52 ls []) := by
        intro S52 v2_52 hv2_52 hkb14 h H locs ls hP hS hl
        rcases v2_52 with _ | jv2_52
        · have hl : lv_has ls 7 [(1, .int x1), (2, .null), (3, .ref (a 1)), (4, .int (nI 10)), (5, .int (nI k14))] := hl
          rewrite [f_X3_firstInOrder_b52] at h
          refine lv_iinc (k := 4) (v := nI (k14 + 1)) (lv' := [(5, .int (nI (k14 + 1))), (1, .int x1), (2, .null), (3, .ref (a 1)), (4, .int (nI 10))]) hx hb dX3_firstInOrder_52 hl rfl (nI_inc _) (by decide) rfl (fun ls hl => ?_)
          refine lv_goto (tgt := 14) hx hb dX3_firstInOrder_55 (by decide) ?_
          exact ih14 (k14 + 1) S52 none (fun _ e => nomatch e) (by omega) (by omega) h _ _ _ hP hS (lv_sub hl [1, 2, 3, 4, 0] rfl)
        · have hjv2_52 : jv2_52 < 10 := hv2_52 _ rfl
          have hl : lv_has ls 7 [(1, .int x1), (2, .ref (a (4 + jv2_52))), (3, .ref (a 1)), (4, .int (nI 10)), (5, .int (nI k14))] := hl
          rewrite [f_X3_firstInOrder_b52] at h
          refine lv_iinc (k := 4) (v := nI (k14 + 1)) (lv' := [(5, .int (nI (k14 + 1))), (1, .int x1), (2, .ref (a (4 + jv2_52))), (3, .ref (a 1)), (4, .int (nI 10))]) hx hb dX3_firstInOrder_52 hl rfl (nI_inc _) (by decide) rfl (fun ls hl => ?_)
          refine lv_goto (tgt := 14) hx hb dX3_firstInOrder_55 (by decide) ?_
          exact ih14 (k14 + 1) S52 (some jv2_52) (fun j e => by cases e; omega) (by omega) (by omega) h _ _ _ hP hS (lv_sub hl [1, 2, 3, 4, 0] rfl)
      have J49 : ∀ (S49 : CS), (k14 < 10) → f_X3_firstInOrder_b49 x1 (f_X3_firstInOrder_h14 x1 q14) k14 S49 = F → ∀ (H : Heap) (locs : List Loc) (ls : Array Slot), wC G a S49 H → va_S (wA 21 a s.heap.size) s.heap H locs → lv_has ls 7 [(1, .int x1), (3, .ref (a 1)), (4, .int (nI 10)), (5, .int (nI k14)), (6, .ref (a (4 + k14)))] → W p l e ({ frames := 2, cells := 0, slots := 0, locals := 42 } : Room) s m ([.ref (a 0), .int x1] : List Value).toArray below meth c H locs 0 0 (gQq below G (CW G.2 a) 21 a (fun j => a (4 + j)) 10 F ([.ref (a 0), .int x1] : List Value).toArray s) (F0 m 49 ls []) := by
        intro S49 hkb14 h H locs ls hP hS hl
        rewrite [f_X3_firstInOrder_b49] at h
        refine lv_aload hx hb dX3_firstInOrder_49 (lv_at hl 4 rfl) ?_
        refine lv_astore_n (lv' := [(2, .ref (a (4 + k14))), (1, .int x1), (3, .ref (a 1)), (4, .int (nI 10)), (5, .int (nI k14)), (6, .ref (a (4 + k14)))]) hx hb dX3_firstInOrder_51 rfl hl (by decide) rfl (fun ls hl => ?_)
        exact J52 S49 (some k14) (fun j e => by cases e; omega) (by omega) h _ _ _ hP hS (lv_sub hl [1, 0, 2, 3, 4] rfl)
      rcases v2_14 with _ | jv2_14
      · have hl : lv_has ls 7 [(1, .int x1), (2, .null), (3, .ref (a 1)), (4, .int (nI 10)), (5, .int (nI k14))] := hl
        rewrite [f_X3_firstInOrder_h14] at h
        refine lv_iload hx hb dX3_firstInOrder_14 (lv_at hl 4 rfl) ?_
        refine lv_iload hx hb dX3_firstInOrder_16 (lv_at hl 3 rfl) ?_
        refine lv_icmp_ge (tgt := 58) hx hb dX3_firstInOrder_18 (by decide) (fun c18 => ?_) (fun c18 => ?_)
        · have c18 : 10 ≤ k14 := (nI_leI (a := 10) (b := k14) (by omega) (by omega)).mp c18
          rewrite [if_pos c18] at h
          refine lv_aload_nN hx hb dX3_firstInOrder_58 rfl (lv_at hl 1 rfl) ?_
          exact gRq (wf := CW G.2 a) (S := S14) (o := none) hx hb hr hlocks (fun _ e => nomatch e) hP hS h dX3_firstInOrder_59
        · have c18 : ¬ 10 ≤ k14 := fun z => c18 ((nI_leI (a := 10) (b := k14) (by omega) (by omega)).mpr z)
          rewrite [if_neg c18] at h
          refine lv_aload_n hx hb dX3_firstInOrder_21 rfl (lv_at hl 2 rfl) ?_
          refine lv_iload hx hb dX3_firstInOrder_22 (lv_at hl 4 rfl) ?_
          refine crdL hx hb hK hP (k := k14) (by omega) dX3_firstInOrder_24 ?_
          refine lv_astore (lv' := [(6, .ref (a (4 + k14))), (1, .int x1), (2, .null), (3, .ref (a 1)), (4, .int (nI 10)), (5, .int (nI k14))]) hx hb dX3_firstInOrder_25 hl (by decide) rfl (fun ls hl => ?_)
          refine lv_aload hx hb dX3_firstInOrder_27 (lv_at hl 0 rfl) ?_
          refine cgL hx hb hw2 hown hK hP (i := k14) (by omega) 3 (by decide) (hts (.fieldLink RX3 89 "BackupPower$Load" "state" "I") (by decide +kernel)) dX3_firstInOrder_29 ?_
          refine lv_iload_n hx hb dX3_firstInOrder_32 rfl (lv_at hl 1 rfl) ?_
          refine lv_icmp_ne (tgt := 52) hx hb dX3_firstInOrder_33 (by decide) (fun c33 => ?_) (fun c33 => ?_)
          · rewrite [if_neg c33] at h
            exact J52 S14 none (fun _ e => nomatch e) (by omega) h _ _ _ hP hS (lv_sub hl [1, 2, 3, 4, 5] rfl)
          · rewrite [if_pos c33] at h
            refine lv_aload_nN hx hb dX3_firstInOrder_36 rfl (lv_at hl 2 rfl) ?_
            refine lv_ifnullN (tgt := 49) hx hb dX3_firstInOrder_37 (by decide) ?_
            exact J49 S14 (by omega) h _ _ _ hP hS (lv_sub hl [1, 3, 4, 5, 0] rfl)
      · have hjv2_14 : jv2_14 < 10 := hv2_14 _ rfl
        have hl : lv_has ls 7 [(1, .int x1), (2, .ref (a (4 + jv2_14))), (3, .ref (a 1)), (4, .int (nI 10)), (5, .int (nI k14))] := hl
        rewrite [f_X3_firstInOrder_h14] at h
        refine lv_iload hx hb dX3_firstInOrder_14 (lv_at hl 4 rfl) ?_
        refine lv_iload hx hb dX3_firstInOrder_16 (lv_at hl 3 rfl) ?_
        refine lv_icmp_ge (tgt := 58) hx hb dX3_firstInOrder_18 (by decide) (fun c18 => ?_) (fun c18 => ?_)
        · have c18 : 10 ≤ k14 := (nI_leI (a := 10) (b := k14) (by omega) (by omega)).mp c18
          rewrite [if_pos c18] at h
          refine lv_aload_n hx hb dX3_firstInOrder_58 rfl (lv_at hl 1 rfl) ?_
          exact gRq (wf := CW G.2 a) (S := S14) (o := some jv2_14) hx hb hr hlocks (fun j e => by cases e; omega) hP hS h dX3_firstInOrder_59
        · have c18 : ¬ 10 ≤ k14 := fun z => c18 ((nI_leI (a := 10) (b := k14) (by omega) (by omega)).mpr z)
          rewrite [if_neg c18] at h
          refine lv_aload_n hx hb dX3_firstInOrder_21 rfl (lv_at hl 2 rfl) ?_
          refine lv_iload hx hb dX3_firstInOrder_22 (lv_at hl 4 rfl) ?_
          refine crdL hx hb hK hP (k := k14) (by omega) dX3_firstInOrder_24 ?_
          refine lv_astore (lv' := [(6, .ref (a (4 + k14))), (1, .int x1), (2, .ref (a (4 + jv2_14))), (3, .ref (a 1)), (4, .int (nI 10)), (5, .int (nI k14))]) hx hb dX3_firstInOrder_25 hl (by decide) rfl (fun ls hl => ?_)
          refine lv_aload hx hb dX3_firstInOrder_27 (lv_at hl 0 rfl) ?_
          refine cgL hx hb hw2 hown hK hP (i := k14) (by omega) 3 (by decide) (hts (.fieldLink RX3 89 "BackupPower$Load" "state" "I") (by decide +kernel)) dX3_firstInOrder_29 ?_
          refine lv_iload_n hx hb dX3_firstInOrder_32 rfl (lv_at hl 1 rfl) ?_
          refine lv_icmp_ne (tgt := 52) hx hb dX3_firstInOrder_33 (by decide) (fun c33 => ?_) (fun c33 => ?_)
          · rewrite [if_neg c33] at h
            exact J52 S14 (some jv2_14) (fun j e => by cases e; omega) (by omega) h _ _ _ hP hS (lv_sub hl [1, 2, 3, 4, 5] rfl)
          · rewrite [if_pos c33] at h
            refine lv_aload_n hx hb dX3_firstInOrder_36 rfl (lv_at hl 2 rfl) ?_
            refine lv_ifnull hx hb dX3_firstInOrder_37 ?_
            refine lv_aload hx hb dX3_firstInOrder_40 (lv_at hl 0 rfl) ?_
            refine lv_aload_n hx hb dX3_firstInOrder_42 rfl (lv_at hl 2 rfl) ?_
            refine gcVz (wf := CW G.2 a) (N := 21) (ad := a) (As := [.ref (a (4 + jv2_14))]) (rest := []) (S := S14) ⟨hx, hb, hml, hown, hts⟩ hK hP hS (c_X2_goesAheadOf l G a ha k14 (by omega) jv2_14 (by omega) S14 _) (cwV 1 hts gX3_firstInOrder_X2_goesAheadOf rfl rfl rfl (by decide +kernel) ⟨Nat.le_of_ble_eq_true rfl, Nat.le_of_ble_eq_true rfl⟩) (crL hK hP (i := k14) (by omega)) rfl hl.1 rfl (Nat.le_of_ble_eq_true rfl) dX3_firstInOrder_43 ⟨Nat.le_of_ble_eq_true rfl, Nat.le_of_ble_eq_true rfl⟩ (fun p43 H locs ep43 hbp43 hP hS => ?_)
            rewrite [← ep43] at h
            rewrite [f_X3_firstInOrder_c43] at h
            refine lv_if_eq (tgt := 52) hx hb dX3_firstInOrder_46 (by decide) (fun c46 => ?_) (fun c46 => ?_)
            · rewrite [if_pos c46] at h
              exact J52 p43.2 (some jv2_14) (fun j e => by cases e; omega) (by omega) h _ _ _ hP hS (lv_sub hl [1, 2, 3, 4, 5] rfl)
            · rewrite [if_neg c46] at h
              exact J49 p43.2 (by omega) h _ _ _ hP hS (lv_sub hl [1, 3, 4, 5, 0] rfl)
  rewrite [f_X3_firstInOrder] at h
  refine lv_null hx hb dX3_firstInOrder_0 ?_
  refine lv_astore_nN (lv' := [(2, .null), (0, .ref (a 0)), (1, .int x1)]) hx hb dX3_firstInOrder_1 rfl hl (by decide) rfl (fun ls hl => ?_)
  refine lv_aload_n hx hb dX3_firstInOrder_2 rfl (lv_at hl 1 rfl) ?_
  refine cgM hx hb hw3 hown hK hP 0 (by decide) (v := .ref (a 1)) rfl (hts (.fieldLink RX3 11 "BackupPower" "loads" "[LBackupPower$Load;") (by decide +kernel)) dX3_firstInOrder_3 ?_
  refine lv_astore_n (lv' := [(3, .ref (a 1)), (2, .null), (0, .ref (a 0)), (1, .int x1)]) hx hb dX3_firstInOrder_6 rfl hl (by decide) rfl (fun ls hl => ?_)
  refine lv_aload_n hx hb dX3_firstInOrder_7 rfl (lv_at hl 0 rfl) ?_
  refine clL hx hb hK hP dX3_firstInOrder_8 ?_
  refine lv_istore (lv' := [(4, .int (nI 10)), (3, .ref (a 1)), (2, .null), (0, .ref (a 0)), (1, .int x1)]) hx hb dX3_firstInOrder_9 hl (by decide) rfl (fun ls hl => ?_)
  refine lv_iconst (v := 0) hx hb dX3_firstInOrder_11 (by decide) ?_
  refine lv_istore (lv' := [(5, .int 0), (4, .int (nI 10)), (3, .ref (a 1)), (2, .null), (0, .ref (a 0)), (1, .int x1)]) hx hb dX3_firstInOrder_12 hl (by decide) rfl (fun ls hl => ?_)
  exact L14 (11) 0 S none (fun _ e => nomatch e) (by omega) (by omega) h _ _ _ hP hS (lv_sub hl [5, 3, 2, 1, 0] rfl)

def f_X3_drawFromGenerators_c29 (x1 : Int32) (K14 : Nat → CS → Int32 → Int32 × CS) (k14 : Nat) (v2_14 : Int32) (p29 : Int32 × CS) : Int32 × CS := (K14 (k14 + 1) (cuG p29.2 k14 8 ((p29.2.2.2.2 k14 8) + (if x1 - v2_14 < p29.1 then x1 - v2_14 else p29.1))) (v2_14 + (if x1 - v2_14 < p29.1 then x1 - v2_14 else p29.1)))
def f_X3_drawFromGenerators_h14 (x1 : Int32) : Nat → Nat → CS → Int32 → Int32 × CS
  | 0, _, S14, _ => (0, S14)
  | q + 1, k14, S14, v2_14 => (if 3 ≤ k14 then (v2_14, S14) else (f_X3_drawFromGenerators_c29 x1 (f_X3_drawFromGenerators_h14 x1 q) k14 v2_14 (f_X1_powerLeft k14 S14)))
def f_X3_drawFromGenerators (x1 : Int32) (S : CS) : Int32 × CS := (f_X3_drawFromGenerators_h14 x1 (4) 0 S 0)
set_option maxHeartbeats 4000000 in
set_option maxRecDepth 100000 in
theorem c_X3_drawFromGenerators (l : Launch) (G : WG) (a : Nat → Nat) (ha : wInj 21 a) (x1 : Int32) (S : CS) (sz : Nat) : gMi l yX3_drawFromGenerators wsX3_drawFromGenerators ({ frames := 2, cells := 0, slots := 0, locals := 40 }) G 21 a (CW G.2 a) [.ref (a 0), .int x1] S sz (f_X3_drawFromGenerators x1 S) := by
  unfold gMi
  refine Met.ofW (cc := cX3_drawFromGenerators) (maxL := 8) (ret := (some .int)) (by decide) rfl ?_
  intro p e s m args below meth c s₁ B hml hv
  obtain ⟨rfl, rfl, hP, hK⟩ := hv
  have hx := B.exec
  have hb := B.bytes
  have hr := B.returns
  have hts := atoms_spec (ws := wsX3_drawFromGenerators) B.pre
  have hown : s.vm.findClass RX3 = some m.cls := findClass_of_methodNamed B.named
  have hlocks := B.notSynchronized
  have hS : va_S (wA 21 a s.heap.size) s.heap s.heap [] := va_S.rf
  have hw1 : ∀ w ∈ wsX10, w.before ([.ref (a 0), .int x1] : List Value).toArray s = true := fun w hw => hts w ((by decide +kernel : ∀ w ∈ wsX10, w ∈ wsX3_drawFromGenerators) w hw)
  have hw3 : ∀ w ∈ wsX30, w.before ([.ref (a 0), .int x1] : List Value).toArray s = true := fun w hw => hts w ((by decide +kernel : ∀ w ∈ wsX30, w ∈ wsX3_drawFromGenerators) w hw)
  have hl := lv_entry ([.ref (a 0), .int x1]) (n := 8) (Nat.le_of_ble_eq_true rfl)
  rw [lg_entry_eq]
  generalize (lg_sl ([.ref (a 0), .int x1] : List Value) ++ List.replicate (8 - (lg_sl ([.ref (a 0), .int x1] : List Value)).length) Slot.unset).toArray = ls at hl ⊢
  have hl : lv_has ls 8 [(0, .ref (a 0)), (1, .int x1)] := hl
  generalize hF : f_X3_drawFromGenerators x1 S = F
  have h : f_X3_drawFromGenerators x1 S = F := hF
  clear hF
  show W p l e ({ frames := 2, cells := 0, slots := 0, locals := 40 } : Room) s m ([.ref (a 0), .int x1] : List Value).toArray below meth c s.heap [] 0 0 (gQi below G (CW G.2 a) 21 a F ([.ref (a 0), .int x1] : List Value).toArray s) (F0 m 0 ls [])
  have L14 : ∀ (q14 : Nat) (k14 : Nat) (S14 : CS) (v2_14 : Int32), k14 ≤ 3 → 3 < k14 + q14 → f_X3_drawFromGenerators_h14 x1 q14 k14 S14 v2_14 = F → ∀ (H : Heap) (locs : List Loc) (ls : Array Slot), wC G a S14 H → va_S (wA 21 a s.heap.size) s.heap H locs → lv_has ls 8 [(1, .int x1), (2, .int v2_14), (3, .ref (a 3)), (4, .int (nI 3)), (5, .int (nI k14))] → W p l e ({ frames := 2, cells := 0, slots := 0, locals := 40 } : Room) s m ([.ref (a 0), .int x1] : List Value).toArray below meth c H locs 0 0 (gQi below G (CW G.2 a) 21 a F ([.ref (a 0), .int x1] : List Value).toArray s) (F0 m 14 ls []) := by
    intro q14
    induction q14 with
    | zero => intro k14 S14 v2_14 hk14 hq14 h H locs ls hP hS hl; omega
    | succ q14 ih14 =>
      intro k14 S14 v2_14 hk14 hq14 h H locs ls hP hS hl
      rewrite [f_X3_drawFromGenerators_h14] at h
      refine lv_iload hx hb dX3_drawFromGenerators_14 (lv_at hl 4 rfl) ?_
      refine lv_iload hx hb dX3_drawFromGenerators_16 (lv_at hl 3 rfl) ?_
      refine lv_icmp_ge (tgt := 63) hx hb dX3_drawFromGenerators_18 (by decide) (fun c18 => ?_) (fun c18 => ?_)
      · have c18 : 3 ≤ k14 := (nI_leI (a := 3) (b := k14) (by omega) (by omega)).mp c18
        rewrite [if_pos c18] at h
        refine lv_iload_n hx hb dX3_drawFromGenerators_63 rfl (lv_at hl 1 rfl) ?_
        exact gRi (wf := CW G.2 a) (S := S14) hx hb hr hlocks hP hS h dX3_drawFromGenerators_64
      · have c18 : ¬ 3 ≤ k14 := fun z => c18 ((nI_leI (a := 3) (b := k14) (by omega) (by omega)).mpr z)
        rewrite [if_neg c18] at h
        refine lv_aload_n hx hb dX3_drawFromGenerators_21 rfl (lv_at hl 2 rfl) ?_
        refine lv_iload hx hb dX3_drawFromGenerators_22 (lv_at hl 4 rfl) ?_
        refine crdG hx hb hK hP (k := k14) (by omega) dX3_drawFromGenerators_24 ?_
        refine lv_astore (lv' := [(6, .ref (a (17 + k14))), (1, .int x1), (2, .int v2_14), (3, .ref (a 3)), (4, .int (nI 3)), (5, .int (nI k14))]) hx hb dX3_drawFromGenerators_25 hl (by decide) rfl (fun ls hl => ?_)
        refine lv_aload hx hb dX3_drawFromGenerators_27 (lv_at hl 0 rfl) ?_
        refine gcVi (wf := CW G.2 a) (N := 21) (ad := a) (As := []) (rest := []) (S := S14) ⟨hx, hb, hml, hown, hts⟩ hK hP hS (c_X1_powerLeft l G a ha k14 (by omega) S14 _) (cwV 0 hts gX3_drawFromGenerators_X1_powerLeft rfl rfl rfl (by decide +kernel) ⟨Nat.le_of_ble_eq_true rfl, Nat.le_of_ble_eq_true rfl⟩) (crG hK hP (i := k14) (by omega)) rfl hl.1 rfl (Nat.le_of_ble_eq_true rfl) dX3_drawFromGenerators_29 ⟨Nat.le_of_ble_eq_true rfl, Nat.le_of_ble_eq_true rfl⟩ (fun p29 H locs ep29 hP hS => ?_)
        rewrite [← ep29] at h
        rewrite [f_X3_drawFromGenerators_c29] at h
        refine lv_iload_n hx hb dX3_drawFromGenerators_32 rfl (lv_at hl 1 rfl) ?_
        refine lv_iload_n hx hb dX3_drawFromGenerators_33 rfl (lv_at hl 2 rfl) ?_
        refine lv_isub hx hb dX3_drawFromGenerators_34 ?_
        refine va_mmin hx hb (hml.trans hl.1.symm) hown (hts (.methodLink RX3 109 Lib.Math.min.name) (by decide +kernel)) (hts (.static Lib.Math.min.name) (by decide +kernel)) (hts (.initialized "java/lang/Math") (by decide +kernel)) (hts (.code Lib.Math.min.name Lib.Math.min.code 2 (some .int)) (by decide +kernel)) (Nat.le_of_ble_eq_true rfl) (Nat.le_of_ble_eq_true rfl) (Nat.le_of_ble_eq_true rfl) (Nat.le_of_ble_eq_true rfl) dX3_drawFromGenerators_35 ?_
        refine lv_istore (lv' := [(7, .int (if x1 - v2_14 < p29.1 then x1 - v2_14 else p29.1)), (6, .ref (a (17 + k14))), (1, .int x1), (2, .int v2_14), (3, .ref (a 3)), (4, .int (nI 3)), (5, .int (nI k14))]) hx hb dX3_drawFromGenerators_38 hl (by decide) rfl (fun ls hl => ?_)
        refine lv_aload hx hb dX3_drawFromGenerators_40 (lv_at hl 1 rfl) ?_
        refine lv_dup hx hb dX3_drawFromGenerators_42 rfl ?_
        refine cgG hx hb hw1 hown hK hP (i := k14) (by omega) 8 (by decide) (hts (.fieldLink RX3 239 "BackupPower$Generator" "given" "I") (by decide +kernel)) dX3_drawFromGenerators_43 ?_
        refine lv_iload hx hb dX3_drawFromGenerators_46 (lv_at hl 0 rfl) ?_
        refine lv_iadd hx hb dX3_drawFromGenerators_48 ?_
        refine cpG hx hb hw1 hown hK ha hP hS (i := k14) (by omega) 8 (by decide) rfl okI (hts (.fieldLink RX3 239 "BackupPower$Generator" "given" "I") (by decide +kernel)) dX3_drawFromGenerators_49 (fun H locs hP hS => ?_)
        refine lv_iload_n hx hb dX3_drawFromGenerators_52 rfl (lv_at hl 3 rfl) ?_
        refine lv_iload hx hb dX3_drawFromGenerators_53 (lv_at hl 0 rfl) ?_
        refine lv_iadd hx hb dX3_drawFromGenerators_55 ?_
        refine lv_istore_n (lv' := [(2, .int (v2_14 + (if x1 - v2_14 < p29.1 then x1 - v2_14 else p29.1))), (7, .int (if x1 - v2_14 < p29.1 then x1 - v2_14 else p29.1)), (6, .ref (a (17 + k14))), (1, .int x1), (3, .ref (a 3)), (4, .int (nI 3)), (5, .int (nI k14))]) hx hb dX3_drawFromGenerators_56 rfl hl (by decide) rfl (fun ls hl => ?_)
        refine lv_iinc (k := 6) (v := nI (k14 + 1)) (lv' := [(5, .int (nI (k14 + 1))), (2, .int (v2_14 + (if x1 - v2_14 < p29.1 then x1 - v2_14 else p29.1))), (7, .int (if x1 - v2_14 < p29.1 then x1 - v2_14 else p29.1)), (6, .ref (a (17 + k14))), (1, .int x1), (3, .ref (a 3)), (4, .int (nI 3))]) hx hb dX3_drawFromGenerators_57 hl rfl (nI_inc _) (by decide) rfl (fun ls hl => ?_)
        refine lv_goto (tgt := 14) hx hb dX3_drawFromGenerators_60 (by decide) ?_
        exact ih14 (k14 + 1) (cuG p29.2 k14 8 ((p29.2.2.2.2 k14 8) + (if x1 - v2_14 < p29.1 then x1 - v2_14 else p29.1))) (v2_14 + (if x1 - v2_14 < p29.1 then x1 - v2_14 else p29.1)) (by omega) (by omega) h _ _ _ hP hS (lv_sub hl [4, 1, 5, 6, 0] rfl)
  rewrite [f_X3_drawFromGenerators] at h
  refine lv_iconst (v := 0) hx hb dX3_drawFromGenerators_0 (by decide) ?_
  refine lv_istore_n (lv' := [(2, .int 0), (0, .ref (a 0)), (1, .int x1)]) hx hb dX3_drawFromGenerators_1 rfl hl (by decide) rfl (fun ls hl => ?_)
  refine lv_aload_n hx hb dX3_drawFromGenerators_2 rfl (lv_at hl 1 rfl) ?_
  refine cgM hx hb hw3 hown hK hP 2 (by decide) (v := .ref (a 3)) rfl (hts (.fieldLink RX3 23 "BackupPower" "generators" "[LBackupPower$Generator;") (by decide +kernel)) dX3_drawFromGenerators_3 ?_
  refine lv_astore_n (lv' := [(3, .ref (a 3)), (2, .int 0), (0, .ref (a 0)), (1, .int x1)]) hx hb dX3_drawFromGenerators_6 rfl hl (by decide) rfl (fun ls hl => ?_)
  refine lv_aload_n hx hb dX3_drawFromGenerators_7 rfl (lv_at hl 0 rfl) ?_
  refine clG hx hb hK hP dX3_drawFromGenerators_8 ?_
  refine lv_istore (lv' := [(4, .int (nI 3)), (3, .ref (a 3)), (2, .int 0), (0, .ref (a 0)), (1, .int x1)]) hx hb dX3_drawFromGenerators_9 hl (by decide) rfl (fun ls hl => ?_)
  refine lv_iconst (v := 0) hx hb dX3_drawFromGenerators_11 (by decide) ?_
  refine lv_istore (lv' := [(5, .int 0), (4, .int (nI 3)), (3, .ref (a 3)), (2, .int 0), (0, .ref (a 0)), (1, .int x1)]) hx hb dX3_drawFromGenerators_12 hl (by decide) rfl (fun ls hl => ?_)
  exact L14 (4) 0 S 0 (by omega) (by omega) h _ _ _ hP hS (lv_sub hl [5, 3, 2, 1, 0] rfl)

def f_X3_drawFromBatteries_c29 (x1 : Int32) (K14 : Nat → CS → Int32 → Int32 × CS) (k14 : Nat) (v2_14 : Int32) (p29 : Int32 × CS) : Int32 × CS := (K14 (k14 + 1) (cuB p29.2 k14 1 ((p29.2.2.2.1 k14 1) - (if x1 - v2_14 < p29.1 then x1 - v2_14 else p29.1))) (v2_14 + (if x1 - v2_14 < p29.1 then x1 - v2_14 else p29.1)))
def f_X3_drawFromBatteries_h14 (x1 : Int32) : Nat → Nat → CS → Int32 → Int32 × CS
  | 0, _, S14, _ => (0, S14)
  | q + 1, k14, S14, v2_14 => (if 3 ≤ k14 then (v2_14, S14) else (f_X3_drawFromBatteries_c29 x1 (f_X3_drawFromBatteries_h14 x1 q) k14 v2_14 (f_X0_canGive k14 S14)))
def f_X3_drawFromBatteries (x1 : Int32) (S : CS) : Int32 × CS := (f_X3_drawFromBatteries_h14 x1 (4) 0 S 0)
set_option maxHeartbeats 4000000 in
set_option maxRecDepth 100000 in
theorem c_X3_drawFromBatteries (l : Launch) (G : WG) (a : Nat → Nat) (ha : wInj 21 a) (x1 : Int32) (S : CS) (sz : Nat) : gMi l yX3_drawFromBatteries wsX3_drawFromBatteries ({ frames := 2, cells := 0, slots := 0, locals := 41 }) G 21 a (CW G.2 a) [.ref (a 0), .int x1] S sz (f_X3_drawFromBatteries x1 S) := by
  unfold gMi
  refine Met.ofW (cc := cX3_drawFromBatteries) (maxL := 8) (ret := (some .int)) (by decide) rfl ?_
  intro p e s m args below meth c s₁ B hml hv
  obtain ⟨rfl, rfl, hP, hK⟩ := hv
  have hx := B.exec
  have hb := B.bytes
  have hr := B.returns
  have hts := atoms_spec (ws := wsX3_drawFromBatteries) B.pre
  have hown : s.vm.findClass RX3 = some m.cls := findClass_of_methodNamed B.named
  have hlocks := B.notSynchronized
  have hS : va_S (wA 21 a s.heap.size) s.heap s.heap [] := va_S.rf
  have hw0 : ∀ w ∈ wsX00, w.before ([.ref (a 0), .int x1] : List Value).toArray s = true := fun w hw => hts w ((by decide +kernel : ∀ w ∈ wsX00, w ∈ wsX3_drawFromBatteries) w hw)
  have hw3 : ∀ w ∈ wsX30, w.before ([.ref (a 0), .int x1] : List Value).toArray s = true := fun w hw => hts w ((by decide +kernel : ∀ w ∈ wsX30, w ∈ wsX3_drawFromBatteries) w hw)
  have hl := lv_entry ([.ref (a 0), .int x1]) (n := 8) (Nat.le_of_ble_eq_true rfl)
  rw [lg_entry_eq]
  generalize (lg_sl ([.ref (a 0), .int x1] : List Value) ++ List.replicate (8 - (lg_sl ([.ref (a 0), .int x1] : List Value)).length) Slot.unset).toArray = ls at hl ⊢
  have hl : lv_has ls 8 [(0, .ref (a 0)), (1, .int x1)] := hl
  generalize hF : f_X3_drawFromBatteries x1 S = F
  have h : f_X3_drawFromBatteries x1 S = F := hF
  clear hF
  show W p l e ({ frames := 2, cells := 0, slots := 0, locals := 41 } : Room) s m ([.ref (a 0), .int x1] : List Value).toArray below meth c s.heap [] 0 0 (gQi below G (CW G.2 a) 21 a F ([.ref (a 0), .int x1] : List Value).toArray s) (F0 m 0 ls [])
  have L14 : ∀ (q14 : Nat) (k14 : Nat) (S14 : CS) (v2_14 : Int32), k14 ≤ 3 → 3 < k14 + q14 → f_X3_drawFromBatteries_h14 x1 q14 k14 S14 v2_14 = F → ∀ (H : Heap) (locs : List Loc) (ls : Array Slot), wC G a S14 H → va_S (wA 21 a s.heap.size) s.heap H locs → lv_has ls 8 [(1, .int x1), (2, .int v2_14), (3, .ref (a 2)), (4, .int (nI 3)), (5, .int (nI k14))] → W p l e ({ frames := 2, cells := 0, slots := 0, locals := 41 } : Room) s m ([.ref (a 0), .int x1] : List Value).toArray below meth c H locs 0 0 (gQi below G (CW G.2 a) 21 a F ([.ref (a 0), .int x1] : List Value).toArray s) (F0 m 14 ls []) := by
    intro q14
    induction q14 with
    | zero => intro k14 S14 v2_14 hk14 hq14 h H locs ls hP hS hl; omega
    | succ q14 ih14 =>
      intro k14 S14 v2_14 hk14 hq14 h H locs ls hP hS hl
      rewrite [f_X3_drawFromBatteries_h14] at h
      refine lv_iload hx hb dX3_drawFromBatteries_14 (lv_at hl 4 rfl) ?_
      refine lv_iload hx hb dX3_drawFromBatteries_16 (lv_at hl 3 rfl) ?_
      refine lv_icmp_ge (tgt := 63) hx hb dX3_drawFromBatteries_18 (by decide) (fun c18 => ?_) (fun c18 => ?_)
      · have c18 : 3 ≤ k14 := (nI_leI (a := 3) (b := k14) (by omega) (by omega)).mp c18
        rewrite [if_pos c18] at h
        refine lv_iload_n hx hb dX3_drawFromBatteries_63 rfl (lv_at hl 1 rfl) ?_
        exact gRi (wf := CW G.2 a) (S := S14) hx hb hr hlocks hP hS h dX3_drawFromBatteries_64
      · have c18 : ¬ 3 ≤ k14 := fun z => c18 ((nI_leI (a := 3) (b := k14) (by omega) (by omega)).mpr z)
        rewrite [if_neg c18] at h
        refine lv_aload_n hx hb dX3_drawFromBatteries_21 rfl (lv_at hl 2 rfl) ?_
        refine lv_iload hx hb dX3_drawFromBatteries_22 (lv_at hl 4 rfl) ?_
        refine crdB hx hb hK hP (k := k14) (by omega) dX3_drawFromBatteries_24 ?_
        refine lv_astore (lv' := [(6, .ref (a (14 + k14))), (1, .int x1), (2, .int v2_14), (3, .ref (a 2)), (4, .int (nI 3)), (5, .int (nI k14))]) hx hb dX3_drawFromBatteries_25 hl (by decide) rfl (fun ls hl => ?_)
        refine lv_aload hx hb dX3_drawFromBatteries_27 (lv_at hl 0 rfl) ?_
        refine gcVi (wf := CW G.2 a) (N := 21) (ad := a) (As := []) (rest := []) (S := S14) ⟨hx, hb, hml, hown, hts⟩ hK hP hS (c_X0_canGive l G a ha k14 (by omega) S14 _) (cwV 0 hts gX3_drawFromBatteries_X0_canGive rfl rfl rfl (by decide +kernel) ⟨Nat.le_of_ble_eq_true rfl, Nat.le_of_ble_eq_true rfl⟩) (crB hK hP (i := k14) (by omega)) rfl hl.1 rfl (Nat.le_of_ble_eq_true rfl) dX3_drawFromBatteries_29 ⟨Nat.le_of_ble_eq_true rfl, Nat.le_of_ble_eq_true rfl⟩ (fun p29 H locs ep29 hP hS => ?_)
        rewrite [← ep29] at h
        rewrite [f_X3_drawFromBatteries_c29] at h
        refine lv_iload_n hx hb dX3_drawFromBatteries_32 rfl (lv_at hl 1 rfl) ?_
        refine lv_iload_n hx hb dX3_drawFromBatteries_33 rfl (lv_at hl 2 rfl) ?_
        refine lv_isub hx hb dX3_drawFromBatteries_34 ?_
        refine va_mmin hx hb (hml.trans hl.1.symm) hown (hts (.methodLink RX3 109 Lib.Math.min.name) (by decide +kernel)) (hts (.static Lib.Math.min.name) (by decide +kernel)) (hts (.initialized "java/lang/Math") (by decide +kernel)) (hts (.code Lib.Math.min.name Lib.Math.min.code 2 (some .int)) (by decide +kernel)) (Nat.le_of_ble_eq_true rfl) (Nat.le_of_ble_eq_true rfl) (Nat.le_of_ble_eq_true rfl) (Nat.le_of_ble_eq_true rfl) dX3_drawFromBatteries_35 ?_
        refine lv_istore (lv' := [(7, .int (if x1 - v2_14 < p29.1 then x1 - v2_14 else p29.1)), (6, .ref (a (14 + k14))), (1, .int x1), (2, .int v2_14), (3, .ref (a 2)), (4, .int (nI 3)), (5, .int (nI k14))]) hx hb dX3_drawFromBatteries_38 hl (by decide) rfl (fun ls hl => ?_)
        refine lv_aload hx hb dX3_drawFromBatteries_40 (lv_at hl 1 rfl) ?_
        refine lv_dup hx hb dX3_drawFromBatteries_42 rfl ?_
        refine cgB hx hb hw0 hown hK hP (i := k14) (by omega) 1 (by decide) (hts (.fieldLink RX3 153 "BackupPower$Battery" "charge" "I") (by decide +kernel)) dX3_drawFromBatteries_43 ?_
        refine lv_iload hx hb dX3_drawFromBatteries_46 (lv_at hl 0 rfl) ?_
        refine lv_isub hx hb dX3_drawFromBatteries_48 ?_
        refine cpB hx hb hw0 hown hK ha hP hS (i := k14) (by omega) 1 (by decide) rfl okI (hts (.fieldLink RX3 153 "BackupPower$Battery" "charge" "I") (by decide +kernel)) dX3_drawFromBatteries_49 (fun H locs hP hS => ?_)
        refine lv_iload_n hx hb dX3_drawFromBatteries_52 rfl (lv_at hl 3 rfl) ?_
        refine lv_iload hx hb dX3_drawFromBatteries_53 (lv_at hl 0 rfl) ?_
        refine lv_iadd hx hb dX3_drawFromBatteries_55 ?_
        refine lv_istore_n (lv' := [(2, .int (v2_14 + (if x1 - v2_14 < p29.1 then x1 - v2_14 else p29.1))), (7, .int (if x1 - v2_14 < p29.1 then x1 - v2_14 else p29.1)), (6, .ref (a (14 + k14))), (1, .int x1), (3, .ref (a 2)), (4, .int (nI 3)), (5, .int (nI k14))]) hx hb dX3_drawFromBatteries_56 rfl hl (by decide) rfl (fun ls hl => ?_)
        refine lv_iinc (k := 6) (v := nI (k14 + 1)) (lv' := [(5, .int (nI (k14 + 1))), (2, .int (v2_14 + (if x1 - v2_14 < p29.1 then x1 - v2_14 else p29.1))), (7, .int (if x1 - v2_14 < p29.1 then x1 - v2_14 else p29.1)), (6, .ref (a (14 + k14))), (1, .int x1), (3, .ref (a 2)), (4, .int (nI 3))]) hx hb dX3_drawFromBatteries_57 hl rfl (nI_inc _) (by decide) rfl (fun ls hl => ?_)
        refine lv_goto (tgt := 14) hx hb dX3_drawFromBatteries_60 (by decide) ?_
        exact ih14 (k14 + 1) (cuB p29.2 k14 1 ((p29.2.2.2.1 k14 1) - (if x1 - v2_14 < p29.1 then x1 - v2_14 else p29.1))) (v2_14 + (if x1 - v2_14 < p29.1 then x1 - v2_14 else p29.1)) (by omega) (by omega) h _ _ _ hP hS (lv_sub hl [4, 1, 5, 6, 0] rfl)
  rewrite [f_X3_drawFromBatteries] at h
  refine lv_iconst (v := 0) hx hb dX3_drawFromBatteries_0 (by decide) ?_
  refine lv_istore_n (lv' := [(2, .int 0), (0, .ref (a 0)), (1, .int x1)]) hx hb dX3_drawFromBatteries_1 rfl hl (by decide) rfl (fun ls hl => ?_)
  refine lv_aload_n hx hb dX3_drawFromBatteries_2 rfl (lv_at hl 1 rfl) ?_
  refine cgM hx hb hw3 hown hK hP 1 (by decide) (v := .ref (a 2)) rfl (hts (.fieldLink RX3 17 "BackupPower" "batteries" "[LBackupPower$Battery;") (by decide +kernel)) dX3_drawFromBatteries_3 ?_
  refine lv_astore_n (lv' := [(3, .ref (a 2)), (2, .int 0), (0, .ref (a 0)), (1, .int x1)]) hx hb dX3_drawFromBatteries_6 rfl hl (by decide) rfl (fun ls hl => ?_)
  refine lv_aload_n hx hb dX3_drawFromBatteries_7 rfl (lv_at hl 0 rfl) ?_
  refine clB hx hb hK hP dX3_drawFromBatteries_8 ?_
  refine lv_istore (lv' := [(4, .int (nI 3)), (3, .ref (a 2)), (2, .int 0), (0, .ref (a 0)), (1, .int x1)]) hx hb dX3_drawFromBatteries_9 hl (by decide) rfl (fun ls hl => ?_)
  refine lv_iconst (v := 0) hx hb dX3_drawFromBatteries_11 (by decide) ?_
  refine lv_istore (lv' := [(5, .int 0), (4, .int (nI 3)), (3, .ref (a 2)), (2, .int 0), (0, .ref (a 0)), (1, .int x1)]) hx hb dX3_drawFromBatteries_12 hl (by decide) rfl (fun ls hl => ?_)
  exact L14 (4) 0 S 0 (by omega) (by omega) h _ _ _ hP hS (lv_sub hl [5, 3, 2, 1, 0] rfl)

def f_X3_fillBatteries_c29 (x1 : Int32) (K14 : Nat → CS → Int32 → Int32 × CS) (k14 : Nat) (v2_14 : Int32) (p29 : Int32 × CS) : Int32 × CS := (K14 (k14 + 1) (cuB p29.2 k14 1 ((p29.2.2.2.1 k14 1) + (if x1 - v2_14 < p29.1 then x1 - v2_14 else p29.1))) (v2_14 + (if x1 - v2_14 < p29.1 then x1 - v2_14 else p29.1)))
def f_X3_fillBatteries_h14 (x1 : Int32) : Nat → Nat → CS → Int32 → Int32 × CS
  | 0, _, S14, _ => (0, S14)
  | q + 1, k14, S14, v2_14 => (if 3 ≤ k14 then (v2_14, S14) else (f_X3_fillBatteries_c29 x1 (f_X3_fillBatteries_h14 x1 q) k14 v2_14 (f_X0_canTake k14 S14)))
def f_X3_fillBatteries (x1 : Int32) (S : CS) : Int32 × CS := (f_X3_fillBatteries_h14 x1 (4) 0 S 0)
set_option maxHeartbeats 4000000 in
set_option maxRecDepth 100000 in
theorem c_X3_fillBatteries (l : Launch) (G : WG) (a : Nat → Nat) (ha : wInj 21 a) (x1 : Int32) (S : CS) (sz : Nat) : gMi l yX3_fillBatteries wsX3_fillBatteries ({ frames := 2, cells := 0, slots := 0, locals := 41 }) G 21 a (CW G.2 a) [.ref (a 0), .int x1] S sz (f_X3_fillBatteries x1 S) := by
  unfold gMi
  refine Met.ofW (cc := cX3_fillBatteries) (maxL := 8) (ret := (some .int)) (by decide) rfl ?_
  intro p e s m args below meth c s₁ B hml hv
  obtain ⟨rfl, rfl, hP, hK⟩ := hv
  have hx := B.exec
  have hb := B.bytes
  have hr := B.returns
  have hts := atoms_spec (ws := wsX3_fillBatteries) B.pre
  have hown : s.vm.findClass RX3 = some m.cls := findClass_of_methodNamed B.named
  have hlocks := B.notSynchronized
  have hS : va_S (wA 21 a s.heap.size) s.heap s.heap [] := va_S.rf
  have hw0 : ∀ w ∈ wsX00, w.before ([.ref (a 0), .int x1] : List Value).toArray s = true := fun w hw => hts w ((by decide +kernel : ∀ w ∈ wsX00, w ∈ wsX3_fillBatteries) w hw)
  have hw3 : ∀ w ∈ wsX30, w.before ([.ref (a 0), .int x1] : List Value).toArray s = true := fun w hw => hts w ((by decide +kernel : ∀ w ∈ wsX30, w ∈ wsX3_fillBatteries) w hw)
  have hl := lv_entry ([.ref (a 0), .int x1]) (n := 8) (Nat.le_of_ble_eq_true rfl)
  rw [lg_entry_eq]
  generalize (lg_sl ([.ref (a 0), .int x1] : List Value) ++ List.replicate (8 - (lg_sl ([.ref (a 0), .int x1] : List Value)).length) Slot.unset).toArray = ls at hl ⊢
  have hl : lv_has ls 8 [(0, .ref (a 0)), (1, .int x1)] := hl
  generalize hF : f_X3_fillBatteries x1 S = F
  have h : f_X3_fillBatteries x1 S = F := hF
  clear hF
  show W p l e ({ frames := 2, cells := 0, slots := 0, locals := 41 } : Room) s m ([.ref (a 0), .int x1] : List Value).toArray below meth c s.heap [] 0 0 (gQi below G (CW G.2 a) 21 a F ([.ref (a 0), .int x1] : List Value).toArray s) (F0 m 0 ls [])
  have L14 : ∀ (q14 : Nat) (k14 : Nat) (S14 : CS) (v2_14 : Int32), k14 ≤ 3 → 3 < k14 + q14 → f_X3_fillBatteries_h14 x1 q14 k14 S14 v2_14 = F → ∀ (H : Heap) (locs : List Loc) (ls : Array Slot), wC G a S14 H → va_S (wA 21 a s.heap.size) s.heap H locs → lv_has ls 8 [(1, .int x1), (2, .int v2_14), (3, .ref (a 2)), (4, .int (nI 3)), (5, .int (nI k14))] → W p l e ({ frames := 2, cells := 0, slots := 0, locals := 41 } : Room) s m ([.ref (a 0), .int x1] : List Value).toArray below meth c H locs 0 0 (gQi below G (CW G.2 a) 21 a F ([.ref (a 0), .int x1] : List Value).toArray s) (F0 m 14 ls []) := by
    intro q14
    induction q14 with
    | zero => intro k14 S14 v2_14 hk14 hq14 h H locs ls hP hS hl; omega
    | succ q14 ih14 =>
      intro k14 S14 v2_14 hk14 hq14 h H locs ls hP hS hl
      rewrite [f_X3_fillBatteries_h14] at h
      refine lv_iload hx hb dX3_fillBatteries_14 (lv_at hl 4 rfl) ?_
      refine lv_iload hx hb dX3_fillBatteries_16 (lv_at hl 3 rfl) ?_
      refine lv_icmp_ge (tgt := 63) hx hb dX3_fillBatteries_18 (by decide) (fun c18 => ?_) (fun c18 => ?_)
      · have c18 : 3 ≤ k14 := (nI_leI (a := 3) (b := k14) (by omega) (by omega)).mp c18
        rewrite [if_pos c18] at h
        refine lv_iload_n hx hb dX3_fillBatteries_63 rfl (lv_at hl 1 rfl) ?_
        exact gRi (wf := CW G.2 a) (S := S14) hx hb hr hlocks hP hS h dX3_fillBatteries_64
      · have c18 : ¬ 3 ≤ k14 := fun z => c18 ((nI_leI (a := 3) (b := k14) (by omega) (by omega)).mpr z)
        rewrite [if_neg c18] at h
        refine lv_aload_n hx hb dX3_fillBatteries_21 rfl (lv_at hl 2 rfl) ?_
        refine lv_iload hx hb dX3_fillBatteries_22 (lv_at hl 4 rfl) ?_
        refine crdB hx hb hK hP (k := k14) (by omega) dX3_fillBatteries_24 ?_
        refine lv_astore (lv' := [(6, .ref (a (14 + k14))), (1, .int x1), (2, .int v2_14), (3, .ref (a 2)), (4, .int (nI 3)), (5, .int (nI k14))]) hx hb dX3_fillBatteries_25 hl (by decide) rfl (fun ls hl => ?_)
        refine lv_aload hx hb dX3_fillBatteries_27 (lv_at hl 0 rfl) ?_
        refine gcVi (wf := CW G.2 a) (N := 21) (ad := a) (As := []) (rest := []) (S := S14) ⟨hx, hb, hml, hown, hts⟩ hK hP hS (c_X0_canTake l G a ha k14 (by omega) S14 _) (cwV 0 hts gX3_fillBatteries_X0_canTake rfl rfl rfl (by decide +kernel) ⟨Nat.le_of_ble_eq_true rfl, Nat.le_of_ble_eq_true rfl⟩) (crB hK hP (i := k14) (by omega)) rfl hl.1 rfl (Nat.le_of_ble_eq_true rfl) dX3_fillBatteries_29 ⟨Nat.le_of_ble_eq_true rfl, Nat.le_of_ble_eq_true rfl⟩ (fun p29 H locs ep29 hP hS => ?_)
        rewrite [← ep29] at h
        rewrite [f_X3_fillBatteries_c29] at h
        refine lv_iload_n hx hb dX3_fillBatteries_32 rfl (lv_at hl 1 rfl) ?_
        refine lv_iload_n hx hb dX3_fillBatteries_33 rfl (lv_at hl 2 rfl) ?_
        refine lv_isub hx hb dX3_fillBatteries_34 ?_
        refine va_mmin hx hb (hml.trans hl.1.symm) hown (hts (.methodLink RX3 109 Lib.Math.min.name) (by decide +kernel)) (hts (.static Lib.Math.min.name) (by decide +kernel)) (hts (.initialized "java/lang/Math") (by decide +kernel)) (hts (.code Lib.Math.min.name Lib.Math.min.code 2 (some .int)) (by decide +kernel)) (Nat.le_of_ble_eq_true rfl) (Nat.le_of_ble_eq_true rfl) (Nat.le_of_ble_eq_true rfl) (Nat.le_of_ble_eq_true rfl) dX3_fillBatteries_35 ?_
        refine lv_istore (lv' := [(7, .int (if x1 - v2_14 < p29.1 then x1 - v2_14 else p29.1)), (6, .ref (a (14 + k14))), (1, .int x1), (2, .int v2_14), (3, .ref (a 2)), (4, .int (nI 3)), (5, .int (nI k14))]) hx hb dX3_fillBatteries_38 hl (by decide) rfl (fun ls hl => ?_)
        refine lv_aload hx hb dX3_fillBatteries_40 (lv_at hl 1 rfl) ?_
        refine lv_dup hx hb dX3_fillBatteries_42 rfl ?_
        refine cgB hx hb hw0 hown hK hP (i := k14) (by omega) 1 (by decide) (hts (.fieldLink RX3 153 "BackupPower$Battery" "charge" "I") (by decide +kernel)) dX3_fillBatteries_43 ?_
        refine lv_iload hx hb dX3_fillBatteries_46 (lv_at hl 0 rfl) ?_
        refine lv_iadd hx hb dX3_fillBatteries_48 ?_
        refine cpB hx hb hw0 hown hK ha hP hS (i := k14) (by omega) 1 (by decide) rfl okI (hts (.fieldLink RX3 153 "BackupPower$Battery" "charge" "I") (by decide +kernel)) dX3_fillBatteries_49 (fun H locs hP hS => ?_)
        refine lv_iload_n hx hb dX3_fillBatteries_52 rfl (lv_at hl 3 rfl) ?_
        refine lv_iload hx hb dX3_fillBatteries_53 (lv_at hl 0 rfl) ?_
        refine lv_iadd hx hb dX3_fillBatteries_55 ?_
        refine lv_istore_n (lv' := [(2, .int (v2_14 + (if x1 - v2_14 < p29.1 then x1 - v2_14 else p29.1))), (7, .int (if x1 - v2_14 < p29.1 then x1 - v2_14 else p29.1)), (6, .ref (a (14 + k14))), (1, .int x1), (3, .ref (a 2)), (4, .int (nI 3)), (5, .int (nI k14))]) hx hb dX3_fillBatteries_56 rfl hl (by decide) rfl (fun ls hl => ?_)
        refine lv_iinc (k := 6) (v := nI (k14 + 1)) (lv' := [(5, .int (nI (k14 + 1))), (2, .int (v2_14 + (if x1 - v2_14 < p29.1 then x1 - v2_14 else p29.1))), (7, .int (if x1 - v2_14 < p29.1 then x1 - v2_14 else p29.1)), (6, .ref (a (14 + k14))), (1, .int x1), (3, .ref (a 2)), (4, .int (nI 3))]) hx hb dX3_fillBatteries_57 hl rfl (nI_inc _) (by decide) rfl (fun ls hl => ?_)
        refine lv_goto (tgt := 14) hx hb dX3_fillBatteries_60 (by decide) ?_
        exact ih14 (k14 + 1) (cuB p29.2 k14 1 ((p29.2.2.2.1 k14 1) + (if x1 - v2_14 < p29.1 then x1 - v2_14 else p29.1))) (v2_14 + (if x1 - v2_14 < p29.1 then x1 - v2_14 else p29.1)) (by omega) (by omega) h _ _ _ hP hS (lv_sub hl [4, 1, 5, 6, 0] rfl)
  rewrite [f_X3_fillBatteries] at h
  refine lv_iconst (v := 0) hx hb dX3_fillBatteries_0 (by decide) ?_
  refine lv_istore_n (lv' := [(2, .int 0), (0, .ref (a 0)), (1, .int x1)]) hx hb dX3_fillBatteries_1 rfl hl (by decide) rfl (fun ls hl => ?_)
  refine lv_aload_n hx hb dX3_fillBatteries_2 rfl (lv_at hl 1 rfl) ?_
  refine cgM hx hb hw3 hown hK hP 1 (by decide) (v := .ref (a 2)) rfl (hts (.fieldLink RX3 17 "BackupPower" "batteries" "[LBackupPower$Battery;") (by decide +kernel)) dX3_fillBatteries_3 ?_
  refine lv_astore_n (lv' := [(3, .ref (a 2)), (2, .int 0), (0, .ref (a 0)), (1, .int x1)]) hx hb dX3_fillBatteries_6 rfl hl (by decide) rfl (fun ls hl => ?_)
  refine lv_aload_n hx hb dX3_fillBatteries_7 rfl (lv_at hl 0 rfl) ?_
  refine clB hx hb hK hP dX3_fillBatteries_8 ?_
  refine lv_istore (lv' := [(4, .int (nI 3)), (3, .ref (a 2)), (2, .int 0), (0, .ref (a 0)), (1, .int x1)]) hx hb dX3_fillBatteries_9 hl (by decide) rfl (fun ls hl => ?_)
  refine lv_iconst (v := 0) hx hb dX3_fillBatteries_11 (by decide) ?_
  refine lv_istore (lv' := [(5, .int 0), (4, .int (nI 3)), (3, .ref (a 2)), (2, .int 0), (0, .ref (a 0)), (1, .int x1)]) hx hb dX3_fillBatteries_12 hl (by decide) rfl (fun ls hl => ?_)
  exact L14 (4) 0 S 0 (by omega) (by omega) h _ _ _ hP hS (lv_sub hl [5, 3, 2, 1, 0] rfl)

def f_X3_beginStart_b90 (x1 : Nat) (S90 : CS) : CS := S90
def f_X3_beginStart_b72 (x1 : Nat) (S72 : CS) (v3_72 : Int32) : CS := (f_X3_beginStart_b90 x1 (cuG (cuG (cuG S72 x1 4 1) x1 5 v3_72) x1 6 ((cuG (cuG S72 x1 4 1) x1 5 v3_72).2.2.2 x1 1)))
def f_X3_beginStart_b63 (x1 : Nat) (S63 : CS) (v2_63 : Int32) (s0_63 : Int32) : CS := (if v2_63 = 0 then (if s0_63 = 0 then (f_X3_beginStart_b90 x1 S63) else (f_X3_beginStart_b72 x1 S63 s0_63)) else (f_X3_beginStart_b72 x1 S63 s0_63))
def f_X3_beginStart_b62 (x1 : Nat) (S62 : CS) (v2_62 : Int32) : CS := (f_X3_beginStart_b63 x1 S62 v2_62 0)
def f_X3_beginStart_b31 (x1 : Nat) (S31 : CS) (s0_31 : Int32) : CS := (if (S31.1 6) = 0 then (f_X3_beginStart_b62 x1 S31 s0_31) else (if (S31.2.2.2 x1 11) ≤ 0 then (f_X3_beginStart_b62 x1 S31 s0_31) else (if ((S31.1 7) - ((S31.1 7) / (S31.2.2.2 x1 11)) * (S31.2.2.2 x1 11)) = 0 then (f_X3_beginStart_b63 x1 S31 s0_31 1) else (f_X3_beginStart_b62 x1 S31 s0_31))))
def f_X3_beginStart_b30 (x1 : Nat) (S30 : CS) : CS := (f_X3_beginStart_b31 x1 S30 0)
def f_X3_beginStart (x1 : Nat) (S : CS) : CS := (if (S.2.2.2 x1 3) = 0 then S else (if (S.1 6) = 0 then (if (S.1 8) < (S.1 9) then (f_X3_beginStart_b30 x1 S) else (f_X3_beginStart_b31 x1 S 1)) else (f_X3_beginStart_b30 x1 S)))
set_option maxHeartbeats 4000000 in
set_option maxRecDepth 100000 in
theorem c_X3_beginStart (l : Launch) (G : WG) (a : Nat → Nat) (ha : wInj 21 a) (x1 : Nat) (hx1 : x1 < 3) (S : CS) (sz : Nat) : gMv l yX3_beginStart wsX3_beginStart ({ frames := 0, cells := 0, slots := 0, locals := 0 }) G 21 a (CW G.2 a) [.ref (a 0), .ref (a (17 + x1))] S sz (f_X3_beginStart x1 S) := by
  unfold gMv
  refine Met.ofW (cc := cX3_beginStart) (maxL := 4) (ret := none) (by decide) rfl ?_
  intro p e s m args below meth c s₁ B hml hv
  obtain ⟨rfl, rfl, hP, hK⟩ := hv
  have hx := B.exec
  have hb := B.bytes
  have hr := B.returns
  have hts := atoms_spec (ws := wsX3_beginStart) B.pre
  have hown : s.vm.findClass RX3 = some m.cls := findClass_of_methodNamed B.named
  have hlocks := B.notSynchronized
  have hS : va_S (wA 21 a s.heap.size) s.heap s.heap [] := va_S.rf
  have hw1 : ∀ w ∈ wsX10, w.before ([.ref (a 0), .ref (a (17 + x1))] : List Value).toArray s = true := fun w hw => hts w ((by decide +kernel : ∀ w ∈ wsX10, w ∈ wsX3_beginStart) w hw)
  have hw3 : ∀ w ∈ wsX30, w.before ([.ref (a 0), .ref (a (17 + x1))] : List Value).toArray s = true := fun w hw => hts w ((by decide +kernel : ∀ w ∈ wsX30, w ∈ wsX3_beginStart) w hw)
  have hl := lv_entry ([.ref (a 0), .ref (a (17 + x1))]) (n := 4) (Nat.le_of_ble_eq_true rfl)
  rw [lg_entry_eq]
  generalize (lg_sl ([.ref (a 0), .ref (a (17 + x1))] : List Value) ++ List.replicate (4 - (lg_sl ([.ref (a 0), .ref (a (17 + x1))] : List Value)).length) Slot.unset).toArray = ls at hl ⊢
  have hl : lv_has ls 4 [(0, .ref (a 0)), (1, .ref (a (17 + x1)))] := hl
  generalize hF : f_X3_beginStart x1 S = F
  have h : f_X3_beginStart x1 S = F := hF
  clear hF
  show W p l e ({ frames := 0, cells := 0, slots := 0, locals := 0 } : Room) s m ([.ref (a 0), .ref (a (17 + x1))] : List Value).toArray below meth c s.heap [] 0 0 (gQv below G (CW G.2 a) 21 a F ([.ref (a 0), .ref (a (17 + x1))] : List Value).toArray s) (F0 m 0 ls [])
  have J31 : ∀ (S31 : CS) (s0_31 : Int32), (isB s0_31) → f_X3_beginStart_b31 x1 S31 s0_31 = F → ∀ (H : Heap) (locs : List Loc) (ls : Array Slot), wC G a S31 H → va_S (wA 21 a s.heap.size) s.heap H locs → lv_has ls 4 [(0, .ref (a 0)), (1, .ref (a (17 + x1)))] → W p l e ({ frames := 0, cells := 0, slots := 0, locals := 0 } : Room) s m ([.ref (a 0), .ref (a (17 + x1))] : List Value).toArray below meth c H locs 0 0 (gQv below G (CW G.2 a) 21 a F ([.ref (a 0), .ref (a (17 + x1))] : List Value).toArray s) (F0 m 31 ls [.int s0_31]) := by
    intro S31 s0_31 hbs0_31 h H locs ls hP hS hl
    have J63 : ∀ (S63 : CS) (v2_63 : Int32) (s0_63 : Int32), (isB v2_63) → (isB s0_63) → f_X3_beginStart_b63 x1 S63 v2_63 s0_63 = F → ∀ (H : Heap) (locs : List Loc) (ls : Array Slot), wC G a S63 H → va_S (wA 21 a s.heap.size) s.heap H locs → lv_has ls 4 [(1, .ref (a (17 + x1))), (2, .int v2_63)] → W p l e ({ frames := 0, cells := 0, slots := 0, locals := 0 } : Room) s m ([.ref (a 0), .ref (a (17 + x1))] : List Value).toArray below meth c H locs 0 0 (gQv below G (CW G.2 a) 21 a F ([.ref (a 0), .ref (a (17 + x1))] : List Value).toArray s) (F0 m 63 ls [.int s0_63]) := by
      intro S63 v2_63 s0_63 hbv2_63 hbs0_63 h H locs ls hP hS hl
      have J90 : ∀ (S90 : CS), f_X3_beginStart_b90 x1 S90 = F → ∀ (H : Heap) (locs : List Loc) (ls : Array Slot), wC G a S90 H → va_S (wA 21 a s.heap.size) s.heap H locs → lv_has ls 4 [] → W p l e ({ frames := 0, cells := 0, slots := 0, locals := 0 } : Room) s m ([.ref (a 0), .ref (a (17 + x1))] : List Value).toArray below meth c H locs 0 0 (gQv below G (CW G.2 a) 21 a F ([.ref (a 0), .ref (a (17 + x1))] : List Value).toArray s) (F0 m 90 ls []) := by
        intro S90 h H locs ls hP hS hl
        rewrite [f_X3_beginStart_b90] at h
        exact gRv (wf := CW G.2 a) (S := S90) hx hb hr hlocks hP hS h dX3_beginStart_90
      have J72 : ∀ (S72 : CS) (v3_72 : Int32), (isB v3_72) → f_X3_beginStart_b72 x1 S72 v3_72 = F → ∀ (H : Heap) (locs : List Loc) (ls : Array Slot), wC G a S72 H → va_S (wA 21 a s.heap.size) s.heap H locs → lv_has ls 4 [(1, .ref (a (17 + x1))), (3, .int v3_72)] → W p l e ({ frames := 0, cells := 0, slots := 0, locals := 0 } : Room) s m ([.ref (a 0), .ref (a (17 + x1))] : List Value).toArray below meth c H locs 0 0 (gQv below G (CW G.2 a) 21 a F ([.ref (a 0), .ref (a (17 + x1))] : List Value).toArray s) (F0 m 72 ls []) := by
        intro S72 v3_72 hbv3_72 h H locs ls hP hS hl
        rewrite [f_X3_beginStart_b72] at h
        refine lv_aload_n hx hb dX3_beginStart_72 rfl (lv_at hl 0 rfl) ?_
        refine lv_iconst (v := 1) hx hb dX3_beginStart_73 (by decide) ?_
        refine cpG hx hb hw1 hown hK ha hP hS (i := x1) (by omega) 4 (by decide) rfl okI (hts (.fieldLink RX3 162 "BackupPower$Generator" "state" "I") (by decide +kernel)) dX3_beginStart_74 (fun H locs hP hS => ?_)
        refine lv_aload_n hx hb dX3_beginStart_77 rfl (lv_at hl 0 rfl) ?_
        refine lv_iload_n hx hb dX3_beginStart_78 rfl (lv_at hl 1 rfl) ?_
        refine cpG hx hb hw1 hown hK ha hP hS (i := x1) (by omega) 5 (by decide) rfl (okB hbv3_72) (hts (.fieldLink RX3 159 "BackupPower$Generator" "onTest" "Z") (by decide +kernel)) dX3_beginStart_79 (fun H locs hP hS => ?_)
        refine lv_aload_n hx hb dX3_beginStart_82 rfl (lv_at hl 0 rfl) ?_
        refine lv_aload_n hx hb dX3_beginStart_83 rfl (lv_at hl 0 rfl) ?_
        refine cgG hx hb hw1 hown hK hP (i := x1) (by omega) 1 (by decide) (hts (.fieldLink RX3 253 "BackupPower$Generator" "delay" "I") (by decide +kernel)) dX3_beginStart_84 ?_
        refine cpG hx hb hw1 hown hK ha hP hS (i := x1) (by omega) 6 (by decide) rfl okI (hts (.fieldLink RX3 256 "BackupPower$Generator" "minutesToGo" "I") (by decide +kernel)) dX3_beginStart_87 (fun H locs hP hS => ?_)
        exact J90 (cuG (cuG (cuG S72 x1 4 1) x1 5 v3_72) x1 6 ((cuG (cuG S72 x1 4 1) x1 5 v3_72).2.2.2 x1 1)) h _ _ _ hP hS (lv_sub hl [] rfl)
      rewrite [f_X3_beginStart_b63] at h
      refine lv_istore_n (lv' := [(3, .int s0_63), (1, .ref (a (17 + x1))), (2, .int v2_63)]) hx hb dX3_beginStart_63 rfl hl (by decide) rfl (fun ls hl => ?_)
      refine lv_iload_n hx hb dX3_beginStart_64 rfl (lv_at hl 2 rfl) ?_
      refine lv_if_ne (tgt := 72) hx hb dX3_beginStart_65 (by decide) (fun c65 => ?_) (fun c65 => ?_)
      · rewrite [if_neg c65] at h
        exact J72 S63 s0_63 hbs0_63 h _ _ _ hP hS (lv_sub hl [1, 0] rfl)
      · rewrite [if_pos c65] at h
        refine lv_iload_n hx hb dX3_beginStart_68 rfl (lv_at hl 0 rfl) ?_
        refine lv_if_eq (tgt := 90) hx hb dX3_beginStart_69 (by decide) (fun c69 => ?_) (fun c69 => ?_)
        · rewrite [if_pos c69] at h
          exact J90 S63 h _ _ _ hP hS (lv_sub hl [] rfl)
        · rewrite [if_neg c69] at h
          exact J72 S63 s0_63 hbs0_63 h _ _ _ hP hS (lv_sub hl [1, 0] rfl)
    have J62 : ∀ (S62 : CS) (v2_62 : Int32), (isB v2_62) → f_X3_beginStart_b62 x1 S62 v2_62 = F → ∀ (H : Heap) (locs : List Loc) (ls : Array Slot), wC G a S62 H → va_S (wA 21 a s.heap.size) s.heap H locs → lv_has ls 4 [(1, .ref (a (17 + x1))), (2, .int v2_62)] → W p l e ({ frames := 0, cells := 0, slots := 0, locals := 0 } : Room) s m ([.ref (a 0), .ref (a (17 + x1))] : List Value).toArray below meth c H locs 0 0 (gQv below G (CW G.2 a) 21 a F ([.ref (a 0), .ref (a (17 + x1))] : List Value).toArray s) (F0 m 62 ls []) := by
      intro S62 v2_62 hbv2_62 h H locs ls hP hS hl
      rewrite [f_X3_beginStart_b62] at h
      refine lv_iconst (v := 0) hx hb dX3_beginStart_62 (by decide) ?_
      exact J63 S62 v2_62 0 hbv2_62 isB_0 h _ _ _ hP hS (lv_sub hl [0, 1] rfl)
    rewrite [f_X3_beginStart_b31] at h
    refine lv_istore_n (lv' := [(2, .int s0_31), (0, .ref (a 0)), (1, .ref (a (17 + x1)))]) hx hb dX3_beginStart_31 rfl hl (by decide) rfl (fun ls hl => ?_)
    refine lv_aload_n hx hb dX3_beginStart_32 rfl (lv_at hl 1 rfl) ?_
    refine cgM hx hb hw3 hown hK hP 6 (by decide) (v := .int (S31.1 6)) rfl (hts (.fieldLink RX3 27 "BackupPower" "mainsUp" "Z") (by decide +kernel)) dX3_beginStart_33 ?_
    refine lv_if_eq (tgt := 62) hx hb dX3_beginStart_36 (by decide) (fun c36 => ?_) (fun c36 => ?_)
    · rewrite [if_pos c36] at h
      exact J62 S31 s0_31 hbs0_31 h _ _ _ hP hS (lv_sub hl [2, 0] rfl)
    · rewrite [if_neg c36] at h
      refine lv_aload_n hx hb dX3_beginStart_39 rfl (lv_at hl 2 rfl) ?_
      refine cgG hx hb hw1 hown hK hP (i := x1) (by omega) 11 (by decide) (hts (.fieldLink RX3 122 "BackupPower$Generator" "testPeriod" "I") (by decide +kernel)) dX3_beginStart_40 ?_
      refine lv_if_le (tgt := 62) hx hb dX3_beginStart_43 (by decide) (fun c43 => ?_) (fun c43 => ?_)
      · rewrite [if_pos c43] at h
        exact J62 S31 s0_31 hbs0_31 h _ _ _ hP hS (lv_sub hl [2, 0] rfl)
      · rewrite [if_neg c43] at h
        refine lv_aload_n hx hb dX3_beginStart_46 rfl (lv_at hl 1 rfl) ?_
        refine cgM hx hb hw3 hown hK hP 7 (by decide) (v := .int (S31.1 7)) rfl (hts (.fieldLink RX3 136 "BackupPower" "minutesPassed" "I") (by decide +kernel)) dX3_beginStart_47 ?_
        refine lv_aload_n hx hb dX3_beginStart_50 rfl (lv_at hl 2 rfl) ?_
        refine cgG hx hb hw1 hown hK hP (i := x1) (by omega) 11 (by decide) (hts (.fieldLink RX3 122 "BackupPower$Generator" "testPeriod" "I") (by decide +kernel)) dX3_beginStart_51 ?_
        refine lv_irem hx hb dX3_beginStart_54 (fun z => c43 (by rw [z]; decide)) ?_
        refine lv_if_ne (tgt := 62) hx hb dX3_beginStart_55 (by decide) (fun c55 => ?_) (fun c55 => ?_)
        · rewrite [if_neg c55] at h
          exact J62 S31 s0_31 hbs0_31 h _ _ _ hP hS (lv_sub hl [2, 0] rfl)
        · rewrite [if_pos c55] at h
          refine lv_iconst (v := 1) hx hb dX3_beginStart_58 (by decide) ?_
          refine lv_goto (tgt := 63) hx hb dX3_beginStart_59 (by decide) ?_
          exact J63 S31 s0_31 1 hbs0_31 isB_1 h _ _ _ hP hS (lv_sub hl [2, 0] rfl)
  have J30 : ∀ (S30 : CS), f_X3_beginStart_b30 x1 S30 = F → ∀ (H : Heap) (locs : List Loc) (ls : Array Slot), wC G a S30 H → va_S (wA 21 a s.heap.size) s.heap H locs → lv_has ls 4 [(0, .ref (a 0)), (1, .ref (a (17 + x1)))] → W p l e ({ frames := 0, cells := 0, slots := 0, locals := 0 } : Room) s m ([.ref (a 0), .ref (a (17 + x1))] : List Value).toArray below meth c H locs 0 0 (gQv below G (CW G.2 a) 21 a F ([.ref (a 0), .ref (a (17 + x1))] : List Value).toArray s) (F0 m 30 ls []) := by
    intro S30 h H locs ls hP hS hl
    rewrite [f_X3_beginStart_b30] at h
    refine lv_iconst (v := 0) hx hb dX3_beginStart_30 (by decide) ?_
    exact J31 S30 0 isB_0 h _ _ _ hP hS (lv_sub hl [0, 1] rfl)
  rewrite [f_X3_beginStart] at h
  refine lv_aload_n hx hb dX3_beginStart_0 rfl (lv_at hl 1 rfl) ?_
  refine cgG hx hb hw1 hown hK hP (i := x1) (by omega) 3 (by decide) (hts (.fieldLink RX3 106 "BackupPower$Generator" "fuel" "I") (by decide +kernel)) dX3_beginStart_1 ?_
  refine lv_if_ne (tgt := 8) hx hb dX3_beginStart_4 (by decide) (fun c4 => ?_) (fun c4 => ?_)
  · rewrite [if_neg c4] at h
    refine lv_aload_n hx hb dX3_beginStart_8 rfl (lv_at hl 0 rfl) ?_
    refine cgM hx hb hw3 hown hK hP 6 (by decide) (v := .int (S.1 6)) rfl (hts (.fieldLink RX3 27 "BackupPower" "mainsUp" "Z") (by decide +kernel)) dX3_beginStart_9 ?_
    refine lv_if_ne (tgt := 30) hx hb dX3_beginStart_12 (by decide) (fun c12 => ?_) (fun c12 => ?_)
    · rewrite [if_neg c12] at h
      exact J30 S h _ _ _ hP hS (lv_sub hl [0, 1] rfl)
    · rewrite [if_pos c12] at h
      refine lv_aload_n hx hb dX3_beginStart_15 rfl (lv_at hl 0 rfl) ?_
      refine cgM hx hb hw3 hown hK hP 8 (by decide) (v := .int (S.1 8)) rfl (hts (.fieldLink RX3 139 "BackupPower" "outageMinutes" "I") (by decide +kernel)) dX3_beginStart_16 ?_
      refine lv_aload_n hx hb dX3_beginStart_19 rfl (lv_at hl 0 rfl) ?_
      refine cgM hx hb hw3 hown hK hP 9 (by decide) (v := .int (S.1 9)) rfl (hts (.fieldLink RX3 31 "BackupPower" "startTime" "I") (by decide +kernel)) dX3_beginStart_20 ?_
      refine lv_icmp_lt (tgt := 30) hx hb dX3_beginStart_23 (by decide) (fun c23 => ?_) (fun c23 => ?_)
      · rewrite [if_pos c23] at h
        exact J30 S h _ _ _ hP hS (lv_sub hl [0, 1] rfl)
      · rewrite [if_neg c23] at h
        refine lv_iconst (v := 1) hx hb dX3_beginStart_26 (by decide) ?_
        refine lv_goto (tgt := 31) hx hb dX3_beginStart_27 (by decide) ?_
        exact J31 S 1 isB_1 h _ _ _ hP hS (lv_sub hl [0, 1] rfl)
  · rewrite [if_pos c4] at h
    exact gRv (wf := CW G.2 a) (S := S) hx hb hr hlocks hP hS h dX3_beginStart_7

def f_X3_moveGenerators_b82 (K10 : Nat → CS → CS) (k10 : Nat) (S82 : CS) : CS := (K10 (k10 + 1) S82)
def f_X3_moveGenerators_c59 (K10 : Nat → CS → CS) (k10 : Nat) (p59 : CS) : CS := (f_X3_moveGenerators_b82 K10 k10 p59)
def f_X3_moveGenerators_c67 (K10 : Nat → CS → CS) (k10 : Nat) (p67 : CS) : CS := (f_X3_moveGenerators_b82 K10 k10 p67)
def f_X3_moveGenerators_c79 (K10 : Nat → CS → CS) (k10 : Nat) (p79 : CS) : CS := (f_X3_moveGenerators_b82 K10 k10 p79)
def f_X3_moveGenerators_h10  : Nat → Nat → CS → CS
  | 0, _, S10 => S10
  | q + 1, k10, S10 => (if 3 ≤ k10 then S10 else (if (cuG S10 k10 8 0).2.2.2 k10 4 = 0 then (f_X3_moveGenerators_c59  (f_X3_moveGenerators_h10  q) k10 (f_X3_beginStart k10 (cuG S10 k10 8 0))) else (if (cuG S10 k10 8 0).2.2.2 k10 4 = 1 then (f_X3_moveGenerators_c67  (f_X3_moveGenerators_h10  q) k10 (f_X1_goOnStarting k10 (cuG S10 k10 8 0))) else (f_X3_moveGenerators_c79  (f_X3_moveGenerators_h10  q) k10 (f_X1_goOnRunning k10 ((cuG S10 k10 8 0).1 6) (cuG S10 k10 8 0))))))
def f_X3_moveGenerators (S : CS) : CS := (f_X3_moveGenerators_h10  (4) 0 S)
set_option maxHeartbeats 4000000 in
set_option maxRecDepth 100000 in
theorem c_X3_moveGenerators (l : Launch) (G : WG) (a : Nat → Nat) (ha : wInj 21 a)  (S : CS) (sz : Nat) : gMv l yX3_moveGenerators wsX3_moveGenerators ({ frames := 2, cells := 0, slots := 0, locals := 40 }) G 21 a (CW G.2 a) [.ref (a 0)] S sz (f_X3_moveGenerators  S) := by
  unfold gMv
  refine Met.ofW (cc := cX3_moveGenerators) (maxL := 5) (ret := none) (by decide) rfl ?_
  intro p e s m args below meth c s₁ B hml hv
  obtain ⟨rfl, rfl, hP, hK⟩ := hv
  have hx := B.exec
  have hb := B.bytes
  have hr := B.returns
  have hts := atoms_spec (ws := wsX3_moveGenerators) B.pre
  have hown : s.vm.findClass RX3 = some m.cls := findClass_of_methodNamed B.named
  have hlocks := B.notSynchronized
  have hS : va_S (wA 21 a s.heap.size) s.heap s.heap [] := va_S.rf
  have hw1 : ∀ w ∈ wsX10, w.before ([.ref (a 0)] : List Value).toArray s = true := fun w hw => hts w ((by decide +kernel : ∀ w ∈ wsX10, w ∈ wsX3_moveGenerators) w hw)
  have hw3 : ∀ w ∈ wsX30, w.before ([.ref (a 0)] : List Value).toArray s = true := fun w hw => hts w ((by decide +kernel : ∀ w ∈ wsX30, w ∈ wsX3_moveGenerators) w hw)
  have hl := lv_entry ([.ref (a 0)]) (n := 5) (Nat.le_of_ble_eq_true rfl)
  rw [lg_entry_eq]
  generalize (lg_sl ([.ref (a 0)] : List Value) ++ List.replicate (5 - (lg_sl ([.ref (a 0)] : List Value)).length) Slot.unset).toArray = ls at hl ⊢
  have hl : lv_has ls 5 [(0, .ref (a 0))] := hl
  generalize hF : f_X3_moveGenerators  S = F
  have h : f_X3_moveGenerators  S = F := hF
  clear hF
  show W p l e ({ frames := 2, cells := 0, slots := 0, locals := 40 } : Room) s m ([.ref (a 0)] : List Value).toArray below meth c s.heap [] 0 0 (gQv below G (CW G.2 a) 21 a F ([.ref (a 0)] : List Value).toArray s) (F0 m 0 ls [])
  have L10 : ∀ (q10 : Nat) (k10 : Nat) (S10 : CS), k10 ≤ 3 → 3 < k10 + q10 → f_X3_moveGenerators_h10  q10 k10 S10 = F → ∀ (H : Heap) (locs : List Loc) (ls : Array Slot), wC G a S10 H → va_S (wA 21 a s.heap.size) s.heap H locs → lv_has ls 5 [(0, .ref (a 0)), (1, .ref (a 3)), (2, .int (nI 3)), (3, .int (nI k10))] → W p l e ({ frames := 2, cells := 0, slots := 0, locals := 40 } : Room) s m ([.ref (a 0)] : List Value).toArray below meth c H locs 0 0 (gQv below G (CW G.2 a) 21 a F ([.ref (a 0)] : List Value).toArray s) (F0 m 10 ls []) := by
    intro q10
    induction q10 with
    | zero => intro k10 S10 hk10 hq10 h H locs ls hP hS hl; omega
    | succ q10 ih10 =>
      intro k10 S10 hk10 hq10 h H locs ls hP hS hl
      have J82 : ∀ (S82 : CS), (k10 < 3) → f_X3_moveGenerators_b82 (f_X3_moveGenerators_h10  q10) k10 S82 = F → ∀ (H : Heap) (locs : List Loc) (ls : Array Slot), wC G a S82 H → va_S (wA 21 a s.heap.size) s.heap H locs → lv_has ls 5 [(0, .ref (a 0)), (1, .ref (a 3)), (2, .int (nI 3)), (3, .int (nI k10))] → W p l e ({ frames := 2, cells := 0, slots := 0, locals := 40 } : Room) s m ([.ref (a 0)] : List Value).toArray below meth c H locs 0 0 (gQv below G (CW G.2 a) 21 a F ([.ref (a 0)] : List Value).toArray s) (F0 m 82 ls []) := by
        intro S82 hkb10 h H locs ls hP hS hl
        rewrite [f_X3_moveGenerators_b82] at h
        refine lv_iinc (k := 3) (v := nI (k10 + 1)) (lv' := [(3, .int (nI (k10 + 1))), (0, .ref (a 0)), (1, .ref (a 3)), (2, .int (nI 3))]) hx hb dX3_moveGenerators_82 hl rfl (nI_inc _) (by decide) rfl (fun ls hl => ?_)
        refine lv_goto (tgt := 10) hx hb dX3_moveGenerators_85 (by decide) ?_
        exact ih10 (k10 + 1) S82 (by omega) (by omega) h _ _ _ hP hS (lv_sub hl [1, 2, 3, 0] rfl)
      rewrite [f_X3_moveGenerators_h10] at h
      refine lv_iload_n hx hb dX3_moveGenerators_10 rfl (lv_at hl 3 rfl) ?_
      refine lv_iload_n hx hb dX3_moveGenerators_11 rfl (lv_at hl 2 rfl) ?_
      refine lv_icmp_ge (tgt := 88) hx hb dX3_moveGenerators_12 (by decide) (fun c12 => ?_) (fun c12 => ?_)
      · have c12 : 3 ≤ k10 := (nI_leI (a := 3) (b := k10) (by omega) (by omega)).mp c12
        rewrite [if_pos c12] at h
        exact gRv (wf := CW G.2 a) (S := S10) hx hb hr hlocks hP hS h dX3_moveGenerators_88
      · have c12 : ¬ 3 ≤ k10 := fun z => c12 ((nI_leI (a := 3) (b := k10) (by omega) (by omega)).mpr z)
        rewrite [if_neg c12] at h
        refine lv_aload_n hx hb dX3_moveGenerators_15 rfl (lv_at hl 1 rfl) ?_
        refine lv_iload_n hx hb dX3_moveGenerators_16 rfl (lv_at hl 3 rfl) ?_
        refine crdG hx hb hK hP (k := k10) (by omega) dX3_moveGenerators_17 ?_
        refine lv_astore (lv' := [(4, .ref (a (17 + k10))), (0, .ref (a 0)), (1, .ref (a 3)), (2, .int (nI 3)), (3, .int (nI k10))]) hx hb dX3_moveGenerators_18 hl (by decide) rfl (fun ls hl => ?_)
        refine lv_aload hx hb dX3_moveGenerators_20 (lv_at hl 0 rfl) ?_
        refine lv_iconst (v := 0) hx hb dX3_moveGenerators_22 (by decide) ?_
        refine cpG hx hb hw1 hown hK ha hP hS (i := k10) (by omega) 8 (by decide) rfl okI (hts (.fieldLink RX3 239 "BackupPower$Generator" "given" "I") (by decide +kernel)) dX3_moveGenerators_23 (fun H locs hP hS => ?_)
        refine lv_aload hx hb dX3_moveGenerators_26 (lv_at hl 0 rfl) ?_
        refine cgG hx hb hw1 hown hK hP (i := k10) (by omega) 4 (by decide) (hts (.fieldLink RX3 162 "BackupPower$Generator" "state" "I") (by decide +kernel)) dX3_moveGenerators_28 ?_
        by_cases c31_0 : (cuG S10 k10 8 0).2.2.2 k10 4 = 0
        · rewrite [if_pos c31_0] at h
          refine lv_lookup (off := 25) (tgt := 56) hx hb dX3_moveGenerators_31 (by decide) (by rw [c31_0] <;> rfl) (by decide) ?_
          refine lv_aload_n hx hb dX3_moveGenerators_56 rfl (lv_at hl 1 rfl) ?_
          refine lv_aload hx hb dX3_moveGenerators_57 (lv_at hl 0 rfl) ?_
          refine gcVv (wf := CW G.2 a) (N := 21) (ad := a) (As := [.ref (a (17 + k10))]) (rest := []) (S := cuG S10 k10 8 0) ⟨hx, hb, hml, hown, hts⟩ hK hP hS (c_X3_beginStart l G a ha k10 (by omega) (cuG S10 k10 8 0) _) (cwV 1 hts gX3_moveGenerators_X3_beginStart rfl rfl rfl (by decide +kernel) ⟨Nat.le_of_ble_eq_true rfl, Nat.le_of_ble_eq_true rfl⟩) (crM hK hP) rfl hl.1 rfl (Nat.le_of_ble_eq_true rfl) dX3_moveGenerators_59 ⟨Nat.le_of_ble_eq_true rfl, Nat.le_of_ble_eq_true rfl⟩ (fun p59 H locs ep59 hP hS => ?_)
          rewrite [← ep59] at h
          rewrite [f_X3_moveGenerators_c59] at h
          refine lv_goto (tgt := 82) hx hb dX3_moveGenerators_62 (by decide) ?_
          exact J82 p59 (by omega) h _ _ _ hP hS (lv_sub hl [1, 2, 3, 4] rfl)
        · rewrite [if_neg c31_0] at h
          by_cases c31_1 : (cuG S10 k10 8 0).2.2.2 k10 4 = 1
          · rewrite [if_pos c31_1] at h
            refine lv_lookup (off := 34) (tgt := 65) hx hb dX3_moveGenerators_31 (by decide) ((lv_osw c31_0 rfl).trans (by rw [c31_1] <;> rfl)) (by decide) ?_
            refine lv_aload hx hb dX3_moveGenerators_65 (lv_at hl 0 rfl) ?_
            refine gcVv (wf := CW G.2 a) (N := 21) (ad := a) (As := []) (rest := []) (S := cuG S10 k10 8 0) ⟨hx, hb, hml, hown, hts⟩ hK hP hS (c_X1_goOnStarting l G a ha k10 (by omega) (cuG S10 k10 8 0) _) (cwV 0 hts gX3_moveGenerators_X1_goOnStarting rfl rfl rfl (by decide +kernel) ⟨Nat.le_of_ble_eq_true rfl, Nat.le_of_ble_eq_true rfl⟩) (crG hK hP (i := k10) (by omega)) rfl hl.1 rfl (Nat.le_of_ble_eq_true rfl) dX3_moveGenerators_67 ⟨Nat.le_of_ble_eq_true rfl, Nat.le_of_ble_eq_true rfl⟩ (fun p67 H locs ep67 hP hS => ?_)
            rewrite [← ep67] at h
            rewrite [f_X3_moveGenerators_c67] at h
            refine lv_goto (tgt := 82) hx hb dX3_moveGenerators_70 (by decide) ?_
            exact J82 p67 (by omega) h _ _ _ hP hS (lv_sub hl [1, 2, 3, 4] rfl)
          · rewrite [if_neg c31_1] at h
            refine lv_lookup (off := 42) (tgt := 73) hx hb dX3_moveGenerators_31 (by decide) ((lv_osw c31_0 rfl).trans ((lv_osw c31_1 rfl).trans rfl)) (by decide) ?_
            refine lv_aload hx hb dX3_moveGenerators_73 (lv_at hl 0 rfl) ?_
            refine lv_aload_n hx hb dX3_moveGenerators_75 rfl (lv_at hl 1 rfl) ?_
            refine cgM hx hb hw3 hown hK hP 6 (by decide) (v := .int ((cuG S10 k10 8 0).1 6)) rfl (hts (.fieldLink RX3 27 "BackupPower" "mainsUp" "Z") (by decide +kernel)) dX3_moveGenerators_76 ?_
            refine gcVv (wf := CW G.2 a) (N := 21) (ad := a) (As := [.int ((cuG S10 k10 8 0).1 6)]) (rest := []) (S := cuG S10 k10 8 0) ⟨hx, hb, hml, hown, hts⟩ hK hP hS (c_X1_goOnRunning l G a ha k10 (by omega) ((cuG S10 k10 8 0).1 6) (cuG S10 k10 8 0) _) (cwV 1 hts gX3_moveGenerators_X1_goOnRunning rfl rfl rfl (by decide +kernel) ⟨Nat.le_of_ble_eq_true rfl, Nat.le_of_ble_eq_true rfl⟩) (crG hK hP (i := k10) (by omega)) rfl hl.1 rfl (Nat.le_of_ble_eq_true rfl) dX3_moveGenerators_79 ⟨Nat.le_of_ble_eq_true rfl, Nat.le_of_ble_eq_true rfl⟩ (fun p79 H locs ep79 hP hS => ?_)
            rewrite [← ep79] at h
            rewrite [f_X3_moveGenerators_c79] at h
            exact J82 p79 (by omega) h _ _ _ hP hS (lv_sub hl [1, 2, 3, 4] rfl)
  rewrite [f_X3_moveGenerators] at h
  refine lv_aload_n hx hb dX3_moveGenerators_0 rfl (lv_at hl 0 rfl) ?_
  refine cgM hx hb hw3 hown hK hP 2 (by decide) (v := .ref (a 3)) rfl (hts (.fieldLink RX3 23 "BackupPower" "generators" "[LBackupPower$Generator;") (by decide +kernel)) dX3_moveGenerators_1 ?_
  refine lv_astore_n (lv' := [(1, .ref (a 3)), (0, .ref (a 0))]) hx hb dX3_moveGenerators_4 rfl hl (by decide) rfl (fun ls hl => ?_)
  refine lv_aload_n hx hb dX3_moveGenerators_5 rfl (lv_at hl 0 rfl) ?_
  refine clG hx hb hK hP dX3_moveGenerators_6 ?_
  refine lv_istore_n (lv' := [(2, .int (nI 3)), (1, .ref (a 3)), (0, .ref (a 0))]) hx hb dX3_moveGenerators_7 rfl hl (by decide) rfl (fun ls hl => ?_)
  refine lv_iconst (v := 0) hx hb dX3_moveGenerators_8 (by decide) ?_
  refine lv_istore_n (lv' := [(3, .int 0), (2, .int (nI 3)), (1, .ref (a 3)), (0, .ref (a 0))]) hx hb dX3_moveGenerators_9 rfl hl (by decide) rfl (fun ls hl => ?_)
  exact L10 (4) 0 S (by omega) (by omega) h _ _ _ hP hS (lv_sub hl [3, 2, 1, 0] rfl)

def f_X3_shedLoads_b63 (S63 : CS) (v3_63 : Int32) : Int32 × CS := (v3_63, S63)
def f_X3_shedLoads_c30 (K17 : Nat → CS → Int32 → Int32 → Int32 × CS) (k17 : Nat) (v1_17 : Int32) (v2_17 : Int32) : Option Nat × CS → Int32 × CS
  | (none, wp30) => (f_X3_shedLoads_b63  wp30 (nI k17))
  | (some jp30, wp30) => (K17 (k17 + 1) (cuL wp30 jp30 3 2) v1_17 (v2_17 - ((cuL wp30 jp30 3 2).2.1 jp30 2)))
def f_X3_shedLoads_h17  : Nat → Nat → CS → Int32 → Int32 → Int32 × CS
  | 0, _, S17, _, _ => (0, S17)
  | q + 1, k17, S17, v1_17, v2_17 => (if v2_17 ≤ v1_17 then (f_X3_shedLoads_b63  S17 (nI k17)) else (if 10 ≤ k17 then (f_X3_shedLoads_b63  S17 (nI k17)) else (f_X3_shedLoads_c30  (f_X3_shedLoads_h17  q) k17 v1_17 v2_17 (f_X3_firstInOrder 1 S17))))
def f_X3_shedLoads_c11 (p1 : Int32 × CS) (p5 : Int32 × CS) (p11 : Int32 × CS) : Int32 × CS := (f_X3_shedLoads_h17  (11) 0 p11.2 (p1.1 + p5.1) p11.1)
def f_X3_shedLoads_c5 (p1 : Int32 × CS) (p5 : Int32 × CS) : Int32 × CS := (f_X3_shedLoads_c11  p1 p5 (f_X3_demand p5.2))
def f_X3_shedLoads_c1 (p1 : Int32 × CS) : Int32 × CS := (f_X3_shedLoads_c5  p1 (f_X3_sumBatteryPower p1.2))
def f_X3_shedLoads (S : CS) : Int32 × CS := (f_X3_shedLoads_c1  (f_X3_sumGeneratorPower S))
set_option maxHeartbeats 4000000 in
set_option maxRecDepth 100000 in
theorem c_X3_shedLoads (l : Launch) (G : WG) (a : Nat → Nat) (ha : wInj 21 a)  (S : CS) (sz : Nat) : gMi l yX3_shedLoads wsX3_shedLoads ({ frames := 3, cells := 0, slots := 0, locals := 68 }) G 21 a (CW G.2 a) [.ref (a 0)] S sz (f_X3_shedLoads  S) := by
  unfold gMi
  refine Met.ofW (cc := cX3_shedLoads) (maxL := 5) (ret := (some .int)) (by decide) rfl ?_
  intro p e s m args below meth c s₁ B hml hv
  obtain ⟨rfl, rfl, hP, hK⟩ := hv
  have hx := B.exec
  have hb := B.bytes
  have hr := B.returns
  have hts := atoms_spec (ws := wsX3_shedLoads) B.pre
  have hown : s.vm.findClass RX3 = some m.cls := findClass_of_methodNamed B.named
  have hlocks := B.notSynchronized
  have hS : va_S (wA 21 a s.heap.size) s.heap s.heap [] := va_S.rf
  have hw2 : ∀ w ∈ wsX20, w.before ([.ref (a 0)] : List Value).toArray s = true := fun w hw => hts w ((by decide +kernel : ∀ w ∈ wsX20, w ∈ wsX3_shedLoads) w hw)
  have hl := lv_entry ([.ref (a 0)]) (n := 5) (Nat.le_of_ble_eq_true rfl)
  rw [lg_entry_eq]
  generalize (lg_sl ([.ref (a 0)] : List Value) ++ List.replicate (5 - (lg_sl ([.ref (a 0)] : List Value)).length) Slot.unset).toArray = ls at hl ⊢
  have hl : lv_has ls 5 [(0, .ref (a 0))] := hl
  generalize hF : f_X3_shedLoads  S = F
  have h : f_X3_shedLoads  S = F := hF
  clear hF
  show W p l e ({ frames := 3, cells := 0, slots := 0, locals := 68 } : Room) s m ([.ref (a 0)] : List Value).toArray below meth c s.heap [] 0 0 (gQi below G (CW G.2 a) 21 a F ([.ref (a 0)] : List Value).toArray s) (F0 m 0 ls [])
  have L17 : ∀ (q17 : Nat) (k17 : Nat) (S17 : CS) (v1_17 : Int32) (v2_17 : Int32), k17 ≤ 10 → 10 < k17 + q17 → f_X3_shedLoads_h17  q17 k17 S17 v1_17 v2_17 = F → ∀ (H : Heap) (locs : List Loc) (ls : Array Slot), wC G a S17 H → va_S (wA 21 a s.heap.size) s.heap H locs → lv_has ls 5 [(0, .ref (a 0)), (1, .int v1_17), (2, .int v2_17), (3, .int (nI k17))] → W p l e ({ frames := 3, cells := 0, slots := 0, locals := 68 } : Room) s m ([.ref (a 0)] : List Value).toArray below meth c H locs 0 0 (gQi below G (CW G.2 a) 21 a F ([.ref (a 0)] : List Value).toArray s) (F0 m 17 ls []) := by
    intro q17
    induction q17 with
    | zero => intro k17 S17 v1_17 v2_17 hk17 hq17 h H locs ls hP hS hl; omega
    | succ q17 ih17 =>
      intro k17 S17 v1_17 v2_17 hk17 hq17 h H locs ls hP hS hl
      have J63 : ∀ (S63 : CS) (v3_63 : Int32), f_X3_shedLoads_b63  S63 v3_63 = F → ∀ (H : Heap) (locs : List Loc) (ls : Array Slot), wC G a S63 H → va_S (wA 21 a s.heap.size) s.heap H locs → lv_has ls 5 [(3, .int v3_63)] → W p l e ({ frames := 3, cells := 0, slots := 0, locals := 68 } : Room) s m ([.ref (a 0)] : List Value).toArray below meth c H locs 0 0 (gQi below G (CW G.2 a) 21 a F ([.ref (a 0)] : List Value).toArray s) (F0 m 63 ls []) := by
        intro S63 v3_63 h H locs ls hP hS hl
        rewrite [f_X3_shedLoads_b63] at h
        refine lv_iload_n hx hb dX3_shedLoads_63 rfl (lv_at hl 0 rfl) ?_
        exact gRi (wf := CW G.2 a) (S := S63) hx hb hr hlocks hP hS h dX3_shedLoads_64
      rewrite [f_X3_shedLoads_h17] at h
      refine lv_iload_n hx hb dX3_shedLoads_17 rfl (lv_at hl 2 rfl) ?_
      refine lv_iload_n hx hb dX3_shedLoads_18 rfl (lv_at hl 1 rfl) ?_
      refine lv_icmp_le (tgt := 63) hx hb dX3_shedLoads_19 (by decide) (fun c19 => ?_) (fun c19 => ?_)
      · rewrite [if_pos c19] at h
        exact J63 S17 (nI k17) h _ _ _ hP hS (lv_sub hl [3] rfl)
      · rewrite [if_neg c19] at h
        refine lv_iload_n hx hb dX3_shedLoads_22 rfl (lv_at hl 3 rfl) ?_
        refine lv_bipush (v := 10) hx hb dX3_shedLoads_23 (by decide) ?_
        refine lv_icmp_ge (tgt := 63) hx hb dX3_shedLoads_25 (by decide) (fun c25 => ?_) (fun c25 => ?_)
        · have c25 : 10 ≤ k17 := (nI_leI (a := 10) (b := k17) (by omega) (by omega)).mp c25
          rewrite [if_pos c25] at h
          exact J63 S17 (nI k17) h _ _ _ hP hS (lv_sub hl [3] rfl)
        · have c25 : ¬ 10 ≤ k17 := fun z => c25 ((nI_leI (a := 10) (b := k17) (by omega) (by omega)).mpr z)
          rewrite [if_neg c25] at h
          refine lv_aload_n hx hb dX3_shedLoads_28 rfl (lv_at hl 0 rfl) ?_
          refine lv_iconst (v := 1) hx hb dX3_shedLoads_29 (by decide) ?_
          refine gcVq (wf := CW G.2 a) (N := 21) (ad := a) (fo := fun j => a (4 + j)) (B9 := 10) (As := [.int 1]) (rest := []) (S := S17) ⟨hx, hb, hml, hown, hts⟩ hK hP hS (c_X3_firstInOrder l G a ha 1 S17 _) (cwV 1 hts gX3_shedLoads_X3_firstInOrder rfl rfl rfl (by decide +kernel) ⟨Nat.le_of_ble_eq_true rfl, Nat.le_of_ble_eq_true rfl⟩) (crM hK hP) rfl hl.1 rfl (Nat.le_of_ble_eq_true rfl) dX3_shedLoads_30 ⟨Nat.le_of_ble_eq_true rfl, Nat.le_of_ble_eq_true rfl⟩ (fun p30 H locs ep30 hqp30 hP hS => ?_)
          rewrite [← ep30] at h
          obtain ⟨op30, wp30⟩ := p30
          rcases op30 with _ | jp30
          · rewrite [f_X3_shedLoads_c30] at h
            refine lv_astoreN (lv' := [(4, .null), (0, .ref (a 0)), (1, .int v1_17), (2, .int v2_17), (3, .int (nI k17))]) hx hb dX3_shedLoads_33 hl (by decide) rfl (fun ls hl => ?_)
            refine lv_aloadN hx hb dX3_shedLoads_35 (lv_at hl 0 rfl) ?_
            refine lv_ifnonnullN hx hb dX3_shedLoads_37 ?_
            refine lv_goto (tgt := 63) hx hb dX3_shedLoads_40 (by decide) ?_
            exact J63 wp30 (nI k17) h _ _ _ hP hS (lv_sub hl [4] rfl)
          · have hjp30 : jp30 < 10 := hqp30 _ rfl
            rewrite [f_X3_shedLoads_c30] at h
            refine lv_astore (lv' := [(4, .ref (a (4 + jp30))), (0, .ref (a 0)), (1, .int v1_17), (2, .int v2_17), (3, .int (nI k17))]) hx hb dX3_shedLoads_33 hl (by decide) rfl (fun ls hl => ?_)
            refine lv_aload hx hb dX3_shedLoads_35 (lv_at hl 0 rfl) ?_
            refine lv_ifnonnull (tgt := 43) hx hb dX3_shedLoads_37 (by decide) ?_
            refine lv_aload hx hb dX3_shedLoads_43 (lv_at hl 0 rfl) ?_
            refine lv_iconst (v := 2) hx hb dX3_shedLoads_45 (by decide) ?_
            refine cpL hx hb hw2 hown hK ha hP hS (i := jp30) (by omega) 3 (by decide) rfl okI (hts (.fieldLink RX3 89 "BackupPower$Load" "state" "I") (by decide +kernel)) dX3_shedLoads_46 (fun H locs hP hS => ?_)
            refine lv_iload_n hx hb dX3_shedLoads_49 rfl (lv_at hl 3 rfl) ?_
            refine lv_aload hx hb dX3_shedLoads_50 (lv_at hl 0 rfl) ?_
            refine cgL hx hb hw2 hown hK hP (i := jp30) (by omega) 2 (by decide) (hts (.fieldLink RX3 94 "BackupPower$Load" "power" "I") (by decide +kernel)) dX3_shedLoads_52 ?_
            refine lv_isub hx hb dX3_shedLoads_55 ?_
            refine lv_istore_n (lv' := [(2, .int (v2_17 - ((cuL wp30 jp30 3 2).2.1 jp30 2))), (4, .ref (a (4 + jp30))), (0, .ref (a 0)), (1, .int v1_17), (3, .int (nI k17))]) hx hb dX3_shedLoads_56 rfl hl (by decide) rfl (fun ls hl => ?_)
            refine lv_iinc (k := 4) (v := nI (k17 + 1)) (lv' := [(3, .int (nI (k17 + 1))), (2, .int (v2_17 - ((cuL wp30 jp30 3 2).2.1 jp30 2))), (4, .ref (a (4 + jp30))), (0, .ref (a 0)), (1, .int v1_17)]) hx hb dX3_shedLoads_57 hl rfl (nI_inc _) (by decide) rfl (fun ls hl => ?_)
            refine lv_goto (tgt := 17) hx hb dX3_shedLoads_60 (by decide) ?_
            exact ih17 (k17 + 1) (cuL wp30 jp30 3 2) v1_17 (v2_17 - ((cuL wp30 jp30 3 2).2.1 jp30 2)) (by omega) (by omega) h _ _ _ hP hS (lv_sub hl [3, 4, 1, 0] rfl)
  rewrite [f_X3_shedLoads] at h
  refine lv_aload_n hx hb dX3_shedLoads_0 rfl (lv_at hl 0 rfl) ?_
  refine gcVi (wf := CW G.2 a) (N := 21) (ad := a) (As := []) (rest := []) (S := S) ⟨hx, hb, hml, hown, hts⟩ hK hP hS (c_X3_sumGeneratorPower l G a ha  S _) (cwV 0 hts gX3_shedLoads_X3_sumGeneratorPower rfl rfl rfl (by decide +kernel) ⟨Nat.le_of_ble_eq_true rfl, Nat.le_of_ble_eq_true rfl⟩) (crM hK hP) rfl hl.1 rfl (Nat.le_of_ble_eq_true rfl) dX3_shedLoads_1 ⟨Nat.le_of_ble_eq_true rfl, Nat.le_of_ble_eq_true rfl⟩ (fun p1 H locs ep1 hP hS => ?_)
  rewrite [← ep1] at h
  rewrite [f_X3_shedLoads_c1] at h
  refine lv_aload_n hx hb dX3_shedLoads_4 rfl (lv_at hl 0 rfl) ?_
  refine gcVi (wf := CW G.2 a) (N := 21) (ad := a) (As := []) (rest := [.int p1.1]) (S := p1.2) ⟨hx, hb, hml, hown, hts⟩ hK hP hS (c_X3_sumBatteryPower l G a ha  p1.2 _) (cwV 0 hts gX3_shedLoads_X3_sumBatteryPower rfl rfl rfl (by decide +kernel) ⟨Nat.le_of_ble_eq_true rfl, Nat.le_of_ble_eq_true rfl⟩) (crM hK hP) rfl hl.1 rfl (Nat.le_of_ble_eq_true rfl) dX3_shedLoads_5 ⟨Nat.le_of_ble_eq_true rfl, Nat.le_of_ble_eq_true rfl⟩ (fun p5 H locs ep5 hP hS => ?_)
  rewrite [← ep5] at h
  rewrite [f_X3_shedLoads_c5] at h
  refine lv_iadd hx hb dX3_shedLoads_8 ?_
  refine lv_istore_n (lv' := [(1, .int (p1.1 + p5.1)), (0, .ref (a 0))]) hx hb dX3_shedLoads_9 rfl hl (by decide) rfl (fun ls hl => ?_)
  refine lv_aload_n hx hb dX3_shedLoads_10 rfl (lv_at hl 1 rfl) ?_
  refine gcVi (wf := CW G.2 a) (N := 21) (ad := a) (As := []) (rest := []) (S := p5.2) ⟨hx, hb, hml, hown, hts⟩ hK hP hS (c_X3_demand l G a ha  p5.2 _) (cwV 0 hts gX3_shedLoads_X3_demand rfl rfl rfl (by decide +kernel) ⟨Nat.le_of_ble_eq_true rfl, Nat.le_of_ble_eq_true rfl⟩) (crM hK hP) rfl hl.1 rfl (Nat.le_of_ble_eq_true rfl) dX3_shedLoads_11 ⟨Nat.le_of_ble_eq_true rfl, Nat.le_of_ble_eq_true rfl⟩ (fun p11 H locs ep11 hP hS => ?_)
  rewrite [← ep11] at h
  rewrite [f_X3_shedLoads_c11] at h
  refine lv_istore_n (lv' := [(2, .int p11.1), (1, .int (p1.1 + p5.1)), (0, .ref (a 0))]) hx hb dX3_shedLoads_14 rfl hl (by decide) rfl (fun ls hl => ?_)
  refine lv_iconst (v := 0) hx hb dX3_shedLoads_15 (by decide) ?_
  refine lv_istore_n (lv' := [(3, .int 0), (2, .int p11.1), (1, .int (p1.1 + p5.1)), (0, .ref (a 0))]) hx hb dX3_shedLoads_16 rfl hl (by decide) rfl (fun ls hl => ?_)
  exact L17 (11) 0 p11.2 (p1.1 + p5.1) p11.1 (by omega) (by omega) h _ _ _ hP hS (lv_sub hl [3, 2, 1, 0] rfl)

def f_X3_returnLoad_b72 (S72 : CS) : CS := S72
def f_X3_returnLoad_b59 (S59 : CS) (v1_59 : Nat) : CS := (f_X3_returnLoad_b72  (cuM (cuL S59 v1_59 3 1) 11 ((cuL S59 v1_59 3 1).1 7)))
def f_X3_returnLoad_c53 (jp27 : Nat) (p44 : Int32 × CS) (p53 : Int32 × CS) : CS := (if p53.1 < (p44.1 + (p44.2.2.1 jp27 2)) then (f_X3_returnLoad_b72  p53.2) else (f_X3_returnLoad_b59  p53.2 jp27))
def f_X3_returnLoad_c44 (jp27 : Nat) (p44 : Int32 × CS) : CS := (f_X3_returnLoad_c53  jp27 p44 (f_X3_sumGeneratorPower p44.2))
def f_X3_returnLoad_c27  : Option Nat × CS → CS
  | (none, wp27) => wp27
  | (some jp27, wp27) => (if (wp27.1 6) = 0 then (f_X3_returnLoad_c44  jp27 (f_X3_demand wp27)) else (f_X3_returnLoad_b59  wp27 jp27))
def f_X3_returnLoad_b25 (S25 : CS) : CS := (f_X3_returnLoad_c27  (f_X3_firstInOrder 2 S25))
def f_X3_returnLoad (S : CS) : CS := (if (S.1 11) = (-1) then (f_X3_returnLoad_b25  S) else (if (S.1 10) ≤ ((S.1 7) - (S.1 11)) then (f_X3_returnLoad_b25  S) else S))
set_option maxHeartbeats 4000000 in
set_option maxRecDepth 100000 in
theorem c_X3_returnLoad (l : Launch) (G : WG) (a : Nat → Nat) (ha : wInj 21 a)  (S : CS) (sz : Nat) : gMv l yX3_returnLoad wsX3_returnLoad ({ frames := 3, cells := 0, slots := 0, locals := 68 }) G 21 a (CW G.2 a) [.ref (a 0)] S sz (f_X3_returnLoad  S) := by
  unfold gMv
  refine Met.ofW (cc := cX3_returnLoad) (maxL := 2) (ret := none) (by decide) rfl ?_
  intro p e s m args below meth c s₁ B hml hv
  obtain ⟨rfl, rfl, hP, hK⟩ := hv
  have hx := B.exec
  have hb := B.bytes
  have hr := B.returns
  have hts := atoms_spec (ws := wsX3_returnLoad) B.pre
  have hown : s.vm.findClass RX3 = some m.cls := findClass_of_methodNamed B.named
  have hlocks := B.notSynchronized
  have hS : va_S (wA 21 a s.heap.size) s.heap s.heap [] := va_S.rf
  have hw2 : ∀ w ∈ wsX20, w.before ([.ref (a 0)] : List Value).toArray s = true := fun w hw => hts w ((by decide +kernel : ∀ w ∈ wsX20, w ∈ wsX3_returnLoad) w hw)
  have hw3 : ∀ w ∈ wsX30, w.before ([.ref (a 0)] : List Value).toArray s = true := fun w hw => hts w ((by decide +kernel : ∀ w ∈ wsX30, w ∈ wsX3_returnLoad) w hw)
  have hl := lv_entry ([.ref (a 0)]) (n := 2) (Nat.le_of_ble_eq_true rfl)
  rw [lg_entry_eq]
  generalize (lg_sl ([.ref (a 0)] : List Value) ++ List.replicate (2 - (lg_sl ([.ref (a 0)] : List Value)).length) Slot.unset).toArray = ls at hl ⊢
  have hl : lv_has ls 2 [(0, .ref (a 0))] := hl
  generalize hF : f_X3_returnLoad  S = F
  have h : f_X3_returnLoad  S = F := hF
  clear hF
  show W p l e ({ frames := 3, cells := 0, slots := 0, locals := 68 } : Room) s m ([.ref (a 0)] : List Value).toArray below meth c s.heap [] 0 0 (gQv below G (CW G.2 a) 21 a F ([.ref (a 0)] : List Value).toArray s) (F0 m 0 ls [])
  have J25 : ∀ (S25 : CS), f_X3_returnLoad_b25  S25 = F → ∀ (H : Heap) (locs : List Loc) (ls : Array Slot), wC G a S25 H → va_S (wA 21 a s.heap.size) s.heap H locs → lv_has ls 2 [(0, .ref (a 0))] → W p l e ({ frames := 3, cells := 0, slots := 0, locals := 68 } : Room) s m ([.ref (a 0)] : List Value).toArray below meth c H locs 0 0 (gQv below G (CW G.2 a) 21 a F ([.ref (a 0)] : List Value).toArray s) (F0 m 25 ls []) := by
    intro S25 h H locs ls hP hS hl
    have J72 : ∀ (S72 : CS), f_X3_returnLoad_b72  S72 = F → ∀ (H : Heap) (locs : List Loc) (ls : Array Slot), wC G a S72 H → va_S (wA 21 a s.heap.size) s.heap H locs → lv_has ls 2 [] → W p l e ({ frames := 3, cells := 0, slots := 0, locals := 68 } : Room) s m ([.ref (a 0)] : List Value).toArray below meth c H locs 0 0 (gQv below G (CW G.2 a) 21 a F ([.ref (a 0)] : List Value).toArray s) (F0 m 72 ls []) := by
      intro S72 h H locs ls hP hS hl
      rewrite [f_X3_returnLoad_b72] at h
      exact gRv (wf := CW G.2 a) (S := S72) hx hb hr hlocks hP hS h dX3_returnLoad_72
    have J59 : ∀ (S59 : CS) (v1_59 : Nat), (v1_59 < 10) → f_X3_returnLoad_b59  S59 v1_59 = F → ∀ (H : Heap) (locs : List Loc) (ls : Array Slot), wC G a S59 H → va_S (wA 21 a s.heap.size) s.heap H locs → lv_has ls 2 [(0, .ref (a 0)), (1, .ref (a (4 + v1_59)))] → W p l e ({ frames := 3, cells := 0, slots := 0, locals := 68 } : Room) s m ([.ref (a 0)] : List Value).toArray below meth c H locs 0 0 (gQv below G (CW G.2 a) 21 a F ([.ref (a 0)] : List Value).toArray s) (F0 m 59 ls []) := by
      intro S59 v1_59 hv1_59 h H locs ls hP hS hl
      rewrite [f_X3_returnLoad_b59] at h
      refine lv_aload_n hx hb dX3_returnLoad_59 rfl (lv_at hl 1 rfl) ?_
      refine lv_iconst (v := 1) hx hb dX3_returnLoad_60 (by decide) ?_
      refine cpL hx hb hw2 hown hK ha hP hS (i := v1_59) (by omega) 3 (by decide) rfl okI (hts (.fieldLink RX3 89 "BackupPower$Load" "state" "I") (by decide +kernel)) dX3_returnLoad_61 (fun H locs hP hS => ?_)
      refine lv_aload_n hx hb dX3_returnLoad_64 rfl (lv_at hl 0 rfl) ?_
      refine lv_aload_n hx hb dX3_returnLoad_65 rfl (lv_at hl 0 rfl) ?_
      refine cgM hx hb hw3 hown hK hP 7 (by decide) (v := .int ((cuL S59 v1_59 3 1).1 7)) rfl (hts (.fieldLink RX3 136 "BackupPower" "minutesPassed" "I") (by decide +kernel)) dX3_returnLoad_66 ?_
      refine cpM hx hb hw3 hown hK ha hP hS 11 (by decide) (by decide) rfl okI (hts (.fieldLink RX3 38 "BackupPower" "latestReturn" "I") (by decide +kernel)) dX3_returnLoad_69 (fun H locs hP hS => ?_)
      exact J72 (cuM (cuL S59 v1_59 3 1) 11 ((cuL S59 v1_59 3 1).1 7)) h _ _ _ hP hS (lv_sub hl [] rfl)
    rewrite [f_X3_returnLoad_b25] at h
    refine lv_aload_n hx hb dX3_returnLoad_25 rfl (lv_at hl 0 rfl) ?_
    refine lv_iconst (v := 2) hx hb dX3_returnLoad_26 (by decide) ?_
    refine gcVq (wf := CW G.2 a) (N := 21) (ad := a) (fo := fun j => a (4 + j)) (B9 := 10) (As := [.int 2]) (rest := []) (S := S25) ⟨hx, hb, hml, hown, hts⟩ hK hP hS (c_X3_firstInOrder l G a ha 2 S25 _) (cwV 1 hts gX3_returnLoad_X3_firstInOrder rfl rfl rfl (by decide +kernel) ⟨Nat.le_of_ble_eq_true rfl, Nat.le_of_ble_eq_true rfl⟩) (crM hK hP) rfl hl.1 rfl (Nat.le_of_ble_eq_true rfl) dX3_returnLoad_27 ⟨Nat.le_of_ble_eq_true rfl, Nat.le_of_ble_eq_true rfl⟩ (fun p27 H locs ep27 hqp27 hP hS => ?_)
    rewrite [← ep27] at h
    obtain ⟨op27, wp27⟩ := p27
    rcases op27 with _ | jp27
    · rewrite [f_X3_returnLoad_c27] at h
      refine lv_astore_nN (lv' := [(1, .null), (0, .ref (a 0))]) hx hb dX3_returnLoad_30 rfl hl (by decide) rfl (fun ls hl => ?_)
      refine lv_aload_nN hx hb dX3_returnLoad_31 rfl (lv_at hl 0 rfl) ?_
      refine lv_ifnonnullN hx hb dX3_returnLoad_32 ?_
      exact gRv (wf := CW G.2 a) (S := wp27) hx hb hr hlocks hP hS h dX3_returnLoad_35
    · have hjp27 : jp27 < 10 := hqp27 _ rfl
      rewrite [f_X3_returnLoad_c27] at h
      refine lv_astore_n (lv' := [(1, .ref (a (4 + jp27))), (0, .ref (a 0))]) hx hb dX3_returnLoad_30 rfl hl (by decide) rfl (fun ls hl => ?_)
      refine lv_aload_n hx hb dX3_returnLoad_31 rfl (lv_at hl 0 rfl) ?_
      refine lv_ifnonnull (tgt := 36) hx hb dX3_returnLoad_32 (by decide) ?_
      refine lv_aload_n hx hb dX3_returnLoad_36 rfl (lv_at hl 1 rfl) ?_
      refine cgM hx hb hw3 hown hK hP 6 (by decide) (v := .int (wp27.1 6)) rfl (hts (.fieldLink RX3 27 "BackupPower" "mainsUp" "Z") (by decide +kernel)) dX3_returnLoad_37 ?_
      refine lv_if_ne (tgt := 59) hx hb dX3_returnLoad_40 (by decide) (fun c40 => ?_) (fun c40 => ?_)
      · rewrite [if_neg c40] at h
        exact J59 wp27 jp27 (by omega) h _ _ _ hP hS (lv_sub hl [1, 0] rfl)
      · rewrite [if_pos c40] at h
        refine lv_aload_n hx hb dX3_returnLoad_43 rfl (lv_at hl 1 rfl) ?_
        refine gcVi (wf := CW G.2 a) (N := 21) (ad := a) (As := []) (rest := []) (S := wp27) ⟨hx, hb, hml, hown, hts⟩ hK hP hS (c_X3_demand l G a ha  wp27 _) (cwV 0 hts gX3_returnLoad_X3_demand rfl rfl rfl (by decide +kernel) ⟨Nat.le_of_ble_eq_true rfl, Nat.le_of_ble_eq_true rfl⟩) (crM hK hP) rfl hl.1 rfl (Nat.le_of_ble_eq_true rfl) dX3_returnLoad_44 ⟨Nat.le_of_ble_eq_true rfl, Nat.le_of_ble_eq_true rfl⟩ (fun p44 H locs ep44 hP hS => ?_)
        rewrite [← ep44] at h
        rewrite [f_X3_returnLoad_c44] at h
        refine lv_aload_n hx hb dX3_returnLoad_47 rfl (lv_at hl 0 rfl) ?_
        refine cgL hx hb hw2 hown hK hP (i := jp27) (by omega) 2 (by decide) (hts (.fieldLink RX3 94 "BackupPower$Load" "power" "I") (by decide +kernel)) dX3_returnLoad_48 ?_
        refine lv_iadd hx hb dX3_returnLoad_51 ?_
        refine lv_aload_n hx hb dX3_returnLoad_52 rfl (lv_at hl 1 rfl) ?_
        refine gcVi (wf := CW G.2 a) (N := 21) (ad := a) (As := []) (rest := [.int (p44.1 + (p44.2.2.1 jp27 2))]) (S := p44.2) ⟨hx, hb, hml, hown, hts⟩ hK hP hS (c_X3_sumGeneratorPower l G a ha  p44.2 _) (cwV 0 hts gX3_returnLoad_X3_sumGeneratorPower rfl rfl rfl (by decide +kernel) ⟨Nat.le_of_ble_eq_true rfl, Nat.le_of_ble_eq_true rfl⟩) (crM hK hP) rfl hl.1 rfl (Nat.le_of_ble_eq_true rfl) dX3_returnLoad_53 ⟨Nat.le_of_ble_eq_true rfl, Nat.le_of_ble_eq_true rfl⟩ (fun p53 H locs ep53 hP hS => ?_)
        rewrite [← ep53] at h
        rewrite [f_X3_returnLoad_c53] at h
        refine lv_icmp_gt (tgt := 72) hx hb dX3_returnLoad_56 (by decide) (fun c56 => ?_) (fun c56 => ?_)
        · rewrite [if_pos c56] at h
          exact J72 p53.2 h _ _ _ hP hS (lv_sub hl [] rfl)
        · rewrite [if_neg c56] at h
          exact J59 p53.2 jp27 (by omega) h _ _ _ hP hS (lv_sub hl [1, 0] rfl)
  rewrite [f_X3_returnLoad] at h
  refine lv_aload_n hx hb dX3_returnLoad_0 rfl (lv_at hl 0 rfl) ?_
  refine cgM hx hb hw3 hown hK hP 11 (by decide) (v := .int (S.1 11)) rfl (hts (.fieldLink RX3 38 "BackupPower" "latestReturn" "I") (by decide +kernel)) dX3_returnLoad_1 ?_
  refine lv_iconst (v := (-1)) hx hb dX3_returnLoad_4 (by decide) ?_
  refine lv_icmp_eq (tgt := 25) hx hb dX3_returnLoad_5 (by decide) (fun c5 => ?_) (fun c5 => ?_)
  · rewrite [if_pos c5] at h
    exact J25 S h _ _ _ hP hS (lv_sub hl [0] rfl)
  · rewrite [if_neg c5] at h
    refine lv_aload_n hx hb dX3_returnLoad_8 rfl (lv_at hl 0 rfl) ?_
    refine cgM hx hb hw3 hown hK hP 7 (by decide) (v := .int (S.1 7)) rfl (hts (.fieldLink RX3 136 "BackupPower" "minutesPassed" "I") (by decide +kernel)) dX3_returnLoad_9 ?_
    refine lv_aload_n hx hb dX3_returnLoad_12 rfl (lv_at hl 0 rfl) ?_
    refine cgM hx hb hw3 hown hK hP 11 (by decide) (v := .int (S.1 11)) rfl (hts (.fieldLink RX3 38 "BackupPower" "latestReturn" "I") (by decide +kernel)) dX3_returnLoad_13 ?_
    refine lv_isub hx hb dX3_returnLoad_16 ?_
    refine lv_aload_n hx hb dX3_returnLoad_17 rfl (lv_at hl 0 rfl) ?_
    refine cgM hx hb hw3 hown hK hP 10 (by decide) (v := .int (S.1 10)) rfl (hts (.fieldLink RX3 35 "BackupPower" "staggerTime" "I") (by decide +kernel)) dX3_returnLoad_18 ?_
    refine lv_icmp_ge (tgt := 25) hx hb dX3_returnLoad_21 (by decide) (fun c21 => ?_) (fun c21 => ?_)
    · rewrite [if_pos c21] at h
      exact J25 S h _ _ _ hP hS (lv_sub hl [0] rfl)
    · rewrite [if_neg c21] at h
      exact gRv (wf := CW G.2 a) (S := S) hx hb hr hlocks hP hS h dX3_returnLoad_24

def f_X3_serveLoads_b80 (K13 : Nat → CS → Int32 → CS) (k13 : Nat) (S80 : CS) (v1_80 : Int32) : CS := (K13 (k13 + 1) S80 v1_80)
def f_X3_serveLoads_c129 (p106 : Int32 × CS) (p129 : Int32 × CS) : CS := (cuM p129.2 14 (((cuM p106.2 13 ((p106.2.1 13) + p106.1)).1 14) + p129.1))
def f_X3_serveLoads_c106 (v1_13 : Int32) (p106 : Int32 × CS) : CS := (f_X3_serveLoads_c129  p106 (f_X3_drawFromBatteries (v1_13 - p106.1) (cuM p106.2 13 ((p106.2.1 13) + p106.1))))
def f_X3_serveLoads_h13  : Nat → Nat → CS → Int32 → CS
  | 0, _, S13, _ => S13
  | q + 1, k13, S13, v1_13 => (if 10 ≤ k13 then (if (S13.1 6) = 0 then (f_X3_serveLoads_c106  v1_13 (f_X3_drawFromGenerators v1_13 S13)) else (cuM S13 12 ((S13.1 12) + v1_13))) else (if (S13.2.1 k13 3) = 1 then (f_X3_serveLoads_b80 (f_X3_serveLoads_h13  q) k13 (cuL S13 k13 4 ((S13.2.1 k13 4) + (S13.2.1 k13 2))) (v1_13 + ((cuL S13 k13 4 ((S13.2.1 k13 4) + (S13.2.1 k13 2))).2.1 k13 2))) else (if (S13.2.1 k13 3) = 2 then (f_X3_serveLoads_b80 (f_X3_serveLoads_h13  q) k13 (cuL S13 k13 5 ((S13.2.1 k13 5) + 1)) v1_13) else (f_X3_serveLoads_b80 (f_X3_serveLoads_h13  q) k13 S13 v1_13))))
def f_X3_serveLoads (S : CS) : CS := (f_X3_serveLoads_h13  (11) 0 S 0)
set_option maxHeartbeats 4000000 in
set_option maxRecDepth 100000 in
theorem c_X3_serveLoads (l : Launch) (G : WG) (a : Nat → Nat) (ha : wInj 21 a)  (S : CS) (sz : Nat) : gMv l yX3_serveLoads wsX3_serveLoads ({ frames := 3, cells := 0, slots := 0, locals := 68 }) G 21 a (CW G.2 a) [.ref (a 0)] S sz (f_X3_serveLoads  S) := by
  unfold gMv
  refine Met.ofW (cc := cX3_serveLoads) (maxL := 6) (ret := none) (by decide) rfl ?_
  intro p e s m args below meth c s₁ B hml hv
  obtain ⟨rfl, rfl, hP, hK⟩ := hv
  have hx := B.exec
  have hb := B.bytes
  have hr := B.returns
  have hts := atoms_spec (ws := wsX3_serveLoads) B.pre
  have hown : s.vm.findClass RX3 = some m.cls := findClass_of_methodNamed B.named
  have hlocks := B.notSynchronized
  have hS : va_S (wA 21 a s.heap.size) s.heap s.heap [] := va_S.rf
  have hw2 : ∀ w ∈ wsX20, w.before ([.ref (a 0)] : List Value).toArray s = true := fun w hw => hts w ((by decide +kernel : ∀ w ∈ wsX20, w ∈ wsX3_serveLoads) w hw)
  have hw3 : ∀ w ∈ wsX30, w.before ([.ref (a 0)] : List Value).toArray s = true := fun w hw => hts w ((by decide +kernel : ∀ w ∈ wsX30, w ∈ wsX3_serveLoads) w hw)
  have hl := lv_entry ([.ref (a 0)]) (n := 6) (Nat.le_of_ble_eq_true rfl)
  rw [lg_entry_eq]
  generalize (lg_sl ([.ref (a 0)] : List Value) ++ List.replicate (6 - (lg_sl ([.ref (a 0)] : List Value)).length) Slot.unset).toArray = ls at hl ⊢
  have hl : lv_has ls 6 [(0, .ref (a 0))] := hl
  generalize hF : f_X3_serveLoads  S = F
  have h : f_X3_serveLoads  S = F := hF
  clear hF
  show W p l e ({ frames := 3, cells := 0, slots := 0, locals := 68 } : Room) s m ([.ref (a 0)] : List Value).toArray below meth c s.heap [] 0 0 (gQv below G (CW G.2 a) 21 a F ([.ref (a 0)] : List Value).toArray s) (F0 m 0 ls [])
  have L13 : ∀ (q13 : Nat) (k13 : Nat) (S13 : CS) (v1_13 : Int32), k13 ≤ 10 → 10 < k13 + q13 → f_X3_serveLoads_h13  q13 k13 S13 v1_13 = F → ∀ (H : Heap) (locs : List Loc) (ls : Array Slot), wC G a S13 H → va_S (wA 21 a s.heap.size) s.heap H locs → lv_has ls 6 [(0, .ref (a 0)), (1, .int v1_13), (2, .ref (a 1)), (3, .int (nI 10)), (4, .int (nI k13))] → W p l e ({ frames := 3, cells := 0, slots := 0, locals := 68 } : Room) s m ([.ref (a 0)] : List Value).toArray below meth c H locs 0 0 (gQv below G (CW G.2 a) 21 a F ([.ref (a 0)] : List Value).toArray s) (F0 m 13 ls []) := by
    intro q13
    induction q13 with
    | zero => intro k13 S13 v1_13 hk13 hq13 h H locs ls hP hS hl; omega
    | succ q13 ih13 =>
      intro k13 S13 v1_13 hk13 hq13 h H locs ls hP hS hl
      have J80 : ∀ (S80 : CS) (v1_80 : Int32), (k13 < 10) → f_X3_serveLoads_b80 (f_X3_serveLoads_h13  q13) k13 S80 v1_80 = F → ∀ (H : Heap) (locs : List Loc) (ls : Array Slot), wC G a S80 H → va_S (wA 21 a s.heap.size) s.heap H locs → lv_has ls 6 [(0, .ref (a 0)), (1, .int v1_80), (2, .ref (a 1)), (3, .int (nI 10)), (4, .int (nI k13))] → W p l e ({ frames := 3, cells := 0, slots := 0, locals := 68 } : Room) s m ([.ref (a 0)] : List Value).toArray below meth c H locs 0 0 (gQv below G (CW G.2 a) 21 a F ([.ref (a 0)] : List Value).toArray s) (F0 m 80 ls []) := by
        intro S80 v1_80 hkb13 h H locs ls hP hS hl
        rewrite [f_X3_serveLoads_b80] at h
        refine lv_iinc (k := 4) (v := nI (k13 + 1)) (lv' := [(4, .int (nI (k13 + 1))), (0, .ref (a 0)), (1, .int v1_80), (2, .ref (a 1)), (3, .int (nI 10))]) hx hb dX3_serveLoads_80 hl rfl (nI_inc _) (by decide) rfl (fun ls hl => ?_)
        refine lv_goto (tgt := 13) hx hb dX3_serveLoads_83 (by decide) ?_
        exact ih13 (k13 + 1) S80 v1_80 (by omega) (by omega) h _ _ _ hP hS (lv_sub hl [1, 2, 3, 4, 0] rfl)
      rewrite [f_X3_serveLoads_h13] at h
      refine lv_iload hx hb dX3_serveLoads_13 (lv_at hl 4 rfl) ?_
      refine lv_iload_n hx hb dX3_serveLoads_15 rfl (lv_at hl 3 rfl) ?_
      refine lv_icmp_ge (tgt := 86) hx hb dX3_serveLoads_16 (by decide) (fun c16 => ?_) (fun c16 => ?_)
      · have c16 : 10 ≤ k13 := (nI_leI (a := 10) (b := k13) (by omega) (by omega)).mp c16
        rewrite [if_pos c16] at h
        refine lv_aload_n hx hb dX3_serveLoads_86 rfl (lv_at hl 0 rfl) ?_
        refine cgM hx hb hw3 hown hK hP 6 (by decide) (v := .int (S13.1 6)) rfl (hts (.fieldLink RX3 27 "BackupPower" "mainsUp" "Z") (by decide +kernel)) dX3_serveLoads_87 ?_
        refine lv_if_eq (tgt := 104) hx hb dX3_serveLoads_90 (by decide) (fun c90 => ?_) (fun c90 => ?_)
        · rewrite [if_pos c90] at h
          refine lv_aload_n hx hb dX3_serveLoads_104 rfl (lv_at hl 0 rfl) ?_
          refine lv_iload_n hx hb dX3_serveLoads_105 rfl (lv_at hl 1 rfl) ?_
          refine gcVi (wf := CW G.2 a) (N := 21) (ad := a) (As := [.int v1_13]) (rest := []) (S := S13) ⟨hx, hb, hml, hown, hts⟩ hK hP hS (c_X3_drawFromGenerators l G a ha v1_13 S13 _) (cwV 1 hts gX3_serveLoads_X3_drawFromGenerators rfl rfl rfl (by decide +kernel) ⟨Nat.le_of_ble_eq_true rfl, Nat.le_of_ble_eq_true rfl⟩) (crM hK hP) rfl hl.1 rfl (Nat.le_of_ble_eq_true rfl) dX3_serveLoads_106 ⟨Nat.le_of_ble_eq_true rfl, Nat.le_of_ble_eq_true rfl⟩ (fun p106 H locs ep106 hP hS => ?_)
          rewrite [← ep106] at h
          rewrite [f_X3_serveLoads_c106] at h
          refine lv_istore_n (lv' := [(2, .int p106.1), (0, .ref (a 0)), (1, .int v1_13), (3, .int (nI 10)), (4, .int (nI k13))]) hx hb dX3_serveLoads_109 rfl hl (by decide) rfl (fun ls hl => ?_)
          refine lv_aload_n hx hb dX3_serveLoads_110 rfl (lv_at hl 1 rfl) ?_
          refine lv_dup hx hb dX3_serveLoads_111 rfl ?_
          refine cgM hx hb hw3 hown hK hP 13 (by decide) (v := .int (p106.2.1 13)) rfl (hts (.fieldLink RX3 182 "BackupPower" "generatorEnergy" "I") (by decide +kernel)) dX3_serveLoads_112 ?_
          refine lv_iload_n hx hb dX3_serveLoads_115 rfl (lv_at hl 0 rfl) ?_
          refine lv_iadd hx hb dX3_serveLoads_116 ?_
          refine cpM hx hb hw3 hown hK ha hP hS 13 (by decide) (by decide) rfl okI (hts (.fieldLink RX3 182 "BackupPower" "generatorEnergy" "I") (by decide +kernel)) dX3_serveLoads_117 (fun H locs hP hS => ?_)
          refine lv_aload_n hx hb dX3_serveLoads_120 rfl (lv_at hl 1 rfl) ?_
          refine lv_dup hx hb dX3_serveLoads_121 rfl ?_
          refine cgM hx hb hw3 hown hK hP 14 (by decide) (v := .int ((cuM p106.2 13 ((p106.2.1 13) + p106.1)).1 14)) rfl (hts (.fieldLink RX3 185 "BackupPower" "batteryEnergy" "I") (by decide +kernel)) dX3_serveLoads_122 ?_
          refine lv_aload_n hx hb dX3_serveLoads_125 rfl (lv_at hl 1 rfl) ?_
          refine lv_iload_n hx hb dX3_serveLoads_126 rfl (lv_at hl 2 rfl) ?_
          refine lv_iload_n hx hb dX3_serveLoads_127 rfl (lv_at hl 0 rfl) ?_
          refine lv_isub hx hb dX3_serveLoads_128 ?_
          refine gcVi (wf := CW G.2 a) (N := 21) (ad := a) (As := [.int (v1_13 - p106.1)]) (rest := [.int ((cuM p106.2 13 ((p106.2.1 13) + p106.1)).1 14), .ref (a 0)]) (S := cuM p106.2 13 ((p106.2.1 13) + p106.1)) ⟨hx, hb, hml, hown, hts⟩ hK hP hS (c_X3_drawFromBatteries l G a ha (v1_13 - p106.1) (cuM p106.2 13 ((p106.2.1 13) + p106.1)) _) (cwV 1 hts gX3_serveLoads_X3_drawFromBatteries rfl rfl rfl (by decide +kernel) ⟨Nat.le_of_ble_eq_true rfl, Nat.le_of_ble_eq_true rfl⟩) (crM hK hP) rfl hl.1 rfl (Nat.le_of_ble_eq_true rfl) dX3_serveLoads_129 ⟨Nat.le_of_ble_eq_true rfl, Nat.le_of_ble_eq_true rfl⟩ (fun p129 H locs ep129 hP hS => ?_)
          rewrite [← ep129] at h
          rewrite [f_X3_serveLoads_c129] at h
          refine lv_iadd hx hb dX3_serveLoads_132 ?_
          refine cpM hx hb hw3 hown hK ha hP hS 14 (by decide) (by decide) rfl okI (hts (.fieldLink RX3 185 "BackupPower" "batteryEnergy" "I") (by decide +kernel)) dX3_serveLoads_133 (fun H locs hP hS => ?_)
          exact gRv (wf := CW G.2 a) (S := (cuM p129.2 14 (((cuM p106.2 13 ((p106.2.1 13) + p106.1)).1 14) + p129.1))) hx hb hr hlocks hP hS h dX3_serveLoads_136
        · rewrite [if_neg c90] at h
          refine lv_aload_n hx hb dX3_serveLoads_93 rfl (lv_at hl 0 rfl) ?_
          refine lv_dup hx hb dX3_serveLoads_94 rfl ?_
          refine cgM hx hb hw3 hown hK hP 12 (by decide) (v := .int (S13.1 12)) rfl (hts (.fieldLink RX3 179 "BackupPower" "mainsEnergy" "I") (by decide +kernel)) dX3_serveLoads_95 ?_
          refine lv_iload_n hx hb dX3_serveLoads_98 rfl (lv_at hl 1 rfl) ?_
          refine lv_iadd hx hb dX3_serveLoads_99 ?_
          refine cpM hx hb hw3 hown hK ha hP hS 12 (by decide) (by decide) rfl okI (hts (.fieldLink RX3 179 "BackupPower" "mainsEnergy" "I") (by decide +kernel)) dX3_serveLoads_100 (fun H locs hP hS => ?_)
          exact gRv (wf := CW G.2 a) (S := (cuM S13 12 ((S13.1 12) + v1_13))) hx hb hr hlocks hP hS h dX3_serveLoads_103
      · have c16 : ¬ 10 ≤ k13 := fun z => c16 ((nI_leI (a := 10) (b := k13) (by omega) (by omega)).mpr z)
        rewrite [if_neg c16] at h
        refine lv_aload_n hx hb dX3_serveLoads_19 rfl (lv_at hl 2 rfl) ?_
        refine lv_iload hx hb dX3_serveLoads_20 (lv_at hl 4 rfl) ?_
        refine crdL hx hb hK hP (k := k13) (by omega) dX3_serveLoads_22 ?_
        refine lv_astore (lv' := [(5, .ref (a (4 + k13))), (0, .ref (a 0)), (1, .int v1_13), (2, .ref (a 1)), (3, .int (nI 10)), (4, .int (nI k13))]) hx hb dX3_serveLoads_23 hl (by decide) rfl (fun ls hl => ?_)
        refine lv_aload hx hb dX3_serveLoads_25 (lv_at hl 0 rfl) ?_
        refine cgL hx hb hw2 hown hK hP (i := k13) (by omega) 3 (by decide) (hts (.fieldLink RX3 89 "BackupPower$Load" "state" "I") (by decide +kernel)) dX3_serveLoads_27 ?_
        refine lv_iconst (v := 1) hx hb dX3_serveLoads_30 (by decide) ?_
        refine lv_icmp_ne (tgt := 60) hx hb dX3_serveLoads_31 (by decide) (fun c31 => ?_) (fun c31 => ?_)
        · rewrite [if_neg c31] at h
          refine lv_aload hx hb dX3_serveLoads_60 (lv_at hl 0 rfl) ?_
          refine cgL hx hb hw2 hown hK hP (i := k13) (by omega) 3 (by decide) (hts (.fieldLink RX3 89 "BackupPower$Load" "state" "I") (by decide +kernel)) dX3_serveLoads_62 ?_
          refine lv_iconst (v := 2) hx hb dX3_serveLoads_65 (by decide) ?_
          refine lv_icmp_ne (tgt := 80) hx hb dX3_serveLoads_66 (by decide) (fun c66 => ?_) (fun c66 => ?_)
          · rewrite [if_neg c66] at h
            exact J80 S13 v1_13 (by omega) h _ _ _ hP hS (lv_sub hl [1, 2, 3, 4, 5] rfl)
          · rewrite [if_pos c66] at h
            refine lv_aload hx hb dX3_serveLoads_69 (lv_at hl 0 rfl) ?_
            refine lv_dup hx hb dX3_serveLoads_71 rfl ?_
            refine cgL hx hb hw2 hown hK hP (i := k13) (by omega) 5 (by decide) (hts (.fieldLink RX3 176 "BackupPower$Load" "minutesShed" "I") (by decide +kernel)) dX3_serveLoads_72 ?_
            refine lv_iconst (v := 1) hx hb dX3_serveLoads_75 (by decide) ?_
            refine lv_iadd hx hb dX3_serveLoads_76 ?_
            refine cpL hx hb hw2 hown hK ha hP hS (i := k13) (by omega) 5 (by decide) rfl okI (hts (.fieldLink RX3 176 "BackupPower$Load" "minutesShed" "I") (by decide +kernel)) dX3_serveLoads_77 (fun H locs hP hS => ?_)
            exact J80 (cuL S13 k13 5 ((S13.2.1 k13 5) + 1)) v1_13 (by omega) h _ _ _ hP hS (lv_sub hl [1, 2, 3, 4, 5] rfl)
        · rewrite [if_pos c31] at h
          refine lv_aload hx hb dX3_serveLoads_34 (lv_at hl 0 rfl) ?_
          refine lv_dup hx hb dX3_serveLoads_36 rfl ?_
          refine cgL hx hb hw2 hown hK hP (i := k13) (by omega) 4 (by decide) (hts (.fieldLink RX3 173 "BackupPower$Load" "energy" "I") (by decide +kernel)) dX3_serveLoads_37 ?_
          refine lv_aload hx hb dX3_serveLoads_40 (lv_at hl 0 rfl) ?_
          refine cgL hx hb hw2 hown hK hP (i := k13) (by omega) 2 (by decide) (hts (.fieldLink RX3 94 "BackupPower$Load" "power" "I") (by decide +kernel)) dX3_serveLoads_42 ?_
          refine lv_iadd hx hb dX3_serveLoads_45 ?_
          refine cpL hx hb hw2 hown hK ha hP hS (i := k13) (by omega) 4 (by decide) rfl okI (hts (.fieldLink RX3 173 "BackupPower$Load" "energy" "I") (by decide +kernel)) dX3_serveLoads_46 (fun H locs hP hS => ?_)
          refine lv_iload_n hx hb dX3_serveLoads_49 rfl (lv_at hl 2 rfl) ?_
          refine lv_aload hx hb dX3_serveLoads_50 (lv_at hl 0 rfl) ?_
          refine cgL hx hb hw2 hown hK hP (i := k13) (by omega) 2 (by decide) (hts (.fieldLink RX3 94 "BackupPower$Load" "power" "I") (by decide +kernel)) dX3_serveLoads_52 ?_
          refine lv_iadd hx hb dX3_serveLoads_55 ?_
          refine lv_istore_n (lv' := [(1, .int (v1_13 + ((cuL S13 k13 4 ((S13.2.1 k13 4) + (S13.2.1 k13 2))).2.1 k13 2))), (5, .ref (a (4 + k13))), (0, .ref (a 0)), (2, .ref (a 1)), (3, .int (nI 10)), (4, .int (nI k13))]) hx hb dX3_serveLoads_56 rfl hl (by decide) rfl (fun ls hl => ?_)
          refine lv_goto (tgt := 80) hx hb dX3_serveLoads_57 (by decide) ?_
          exact J80 (cuL S13 k13 4 ((S13.2.1 k13 4) + (S13.2.1 k13 2))) (v1_13 + ((cuL S13 k13 4 ((S13.2.1 k13 4) + (S13.2.1 k13 2))).2.1 k13 2)) (by omega) h _ _ _ hP hS (lv_sub hl [2, 0, 3, 4, 5] rfl)
  rewrite [f_X3_serveLoads] at h
  refine lv_iconst (v := 0) hx hb dX3_serveLoads_0 (by decide) ?_
  refine lv_istore_n (lv' := [(1, .int 0), (0, .ref (a 0))]) hx hb dX3_serveLoads_1 rfl hl (by decide) rfl (fun ls hl => ?_)
  refine lv_aload_n hx hb dX3_serveLoads_2 rfl (lv_at hl 1 rfl) ?_
  refine cgM hx hb hw3 hown hK hP 0 (by decide) (v := .ref (a 1)) rfl (hts (.fieldLink RX3 11 "BackupPower" "loads" "[LBackupPower$Load;") (by decide +kernel)) dX3_serveLoads_3 ?_
  refine lv_astore_n (lv' := [(2, .ref (a 1)), (1, .int 0), (0, .ref (a 0))]) hx hb dX3_serveLoads_6 rfl hl (by decide) rfl (fun ls hl => ?_)
  refine lv_aload_n hx hb dX3_serveLoads_7 rfl (lv_at hl 0 rfl) ?_
  refine clL hx hb hK hP dX3_serveLoads_8 ?_
  refine lv_istore_n (lv' := [(3, .int (nI 10)), (2, .ref (a 1)), (1, .int 0), (0, .ref (a 0))]) hx hb dX3_serveLoads_9 rfl hl (by decide) rfl (fun ls hl => ?_)
  refine lv_iconst (v := 0) hx hb dX3_serveLoads_10 (by decide) ?_
  refine lv_istore (lv' := [(4, .int 0), (3, .int (nI 10)), (2, .ref (a 1)), (1, .int 0), (0, .ref (a 0))]) hx hb dX3_serveLoads_11 hl (by decide) rfl (fun ls hl => ?_)
  exact L13 (11) 0 S 0 (by omega) (by omega) h _ _ _ hP hS (lv_sub hl [4, 3, 2, 1, 0] rfl)

def f_X3_chargeBatteries_c71 (p65 : Int32 × CS) (p71 : Int32 × CS) : CS := (cuM p71.2 15 ((p71.2.1 15) + p65.1))
def f_X3_chargeBatteries_c65 (p65 : Int32 × CS) : CS := (f_X3_chargeBatteries_c71  p65 (f_X3_drawFromGenerators p65.1 p65.2))
def f_X3_chargeBatteries_c52 (K37 : Nat → CS → Int32 → CS) (k37 : Nat) (v1_37 : Int32) (p52 : Int32 × CS) : CS := (K37 (k37 + 1) p52.2 (v1_37 + p52.1))
def f_X3_chargeBatteries_h37  : Nat → Nat → CS → Int32 → CS
  | 0, _, S37, _ => S37
  | q + 1, k37, S37, v1_37 => (if 3 ≤ k37 then (f_X3_chargeBatteries_c65  (f_X3_fillBatteries v1_37 S37)) else (f_X3_chargeBatteries_c52  (f_X3_chargeBatteries_h37  q) k37 v1_37 (f_X1_powerLeft k37 S37)))
def f_X3_chargeBatteries_c16 (S : CS) (p16 : Int32 × CS) : CS := (cuM p16.2 15 ((S.1 15) + p16.1))
def f_X3_chargeBatteries (S : CS) : CS := (if (S.1 6) = 0 then (f_X3_chargeBatteries_h37  (4) 0 S 0) else (f_X3_chargeBatteries_c16  S (f_X3_fillBatteries 1500 S)))
set_option maxHeartbeats 4000000 in
set_option maxRecDepth 100000 in
theorem c_X3_chargeBatteries (l : Launch) (G : WG) (a : Nat → Nat) (ha : wInj 21 a)  (S : CS) (sz : Nat) : gMv l yX3_chargeBatteries wsX3_chargeBatteries ({ frames := 3, cells := 0, slots := 0, locals := 68 }) G 21 a (CW G.2 a) [.ref (a 0)] S sz (f_X3_chargeBatteries  S) := by
  unfold gMv
  refine Met.ofW (cc := cX3_chargeBatteries) (maxL := 6) (ret := none) (by decide) rfl ?_
  intro p e s m args below meth c s₁ B hml hv
  obtain ⟨rfl, rfl, hP, hK⟩ := hv
  have hx := B.exec
  have hb := B.bytes
  have hr := B.returns
  have hts := atoms_spec (ws := wsX3_chargeBatteries) B.pre
  have hown : s.vm.findClass RX3 = some m.cls := findClass_of_methodNamed B.named
  have hlocks := B.notSynchronized
  have hS : va_S (wA 21 a s.heap.size) s.heap s.heap [] := va_S.rf
  have hw3 : ∀ w ∈ wsX30, w.before ([.ref (a 0)] : List Value).toArray s = true := fun w hw => hts w ((by decide +kernel : ∀ w ∈ wsX30, w ∈ wsX3_chargeBatteries) w hw)
  have hl := lv_entry ([.ref (a 0)]) (n := 6) (Nat.le_of_ble_eq_true rfl)
  rw [lg_entry_eq]
  generalize (lg_sl ([.ref (a 0)] : List Value) ++ List.replicate (6 - (lg_sl ([.ref (a 0)] : List Value)).length) Slot.unset).toArray = ls at hl ⊢
  have hl : lv_has ls 6 [(0, .ref (a 0))] := hl
  generalize hF : f_X3_chargeBatteries  S = F
  have h : f_X3_chargeBatteries  S = F := hF
  clear hF
  show W p l e ({ frames := 3, cells := 0, slots := 0, locals := 68 } : Room) s m ([.ref (a 0)] : List Value).toArray below meth c s.heap [] 0 0 (gQv below G (CW G.2 a) 21 a F ([.ref (a 0)] : List Value).toArray s) (F0 m 0 ls [])
  have L37 : ∀ (q37 : Nat) (k37 : Nat) (S37 : CS) (v1_37 : Int32), k37 ≤ 3 → 3 < k37 + q37 → f_X3_chargeBatteries_h37  q37 k37 S37 v1_37 = F → ∀ (H : Heap) (locs : List Loc) (ls : Array Slot), wC G a S37 H → va_S (wA 21 a s.heap.size) s.heap H locs → lv_has ls 6 [(0, .ref (a 0)), (1, .int v1_37), (2, .ref (a 3)), (3, .int (nI 3)), (4, .int (nI k37))] → W p l e ({ frames := 3, cells := 0, slots := 0, locals := 68 } : Room) s m ([.ref (a 0)] : List Value).toArray below meth c H locs 0 0 (gQv below G (CW G.2 a) 21 a F ([.ref (a 0)] : List Value).toArray s) (F0 m 37 ls []) := by
    intro q37
    induction q37 with
    | zero => intro k37 S37 v1_37 hk37 hq37 h H locs ls hP hS hl; omega
    | succ q37 ih37 =>
      intro k37 S37 v1_37 hk37 hq37 h H locs ls hP hS hl
      rewrite [f_X3_chargeBatteries_h37] at h
      refine lv_iload hx hb dX3_chargeBatteries_37 (lv_at hl 4 rfl) ?_
      refine lv_iload_n hx hb dX3_chargeBatteries_39 rfl (lv_at hl 3 rfl) ?_
      refine lv_icmp_ge (tgt := 63) hx hb dX3_chargeBatteries_40 (by decide) (fun c40 => ?_) (fun c40 => ?_)
      · have c40 : 3 ≤ k37 := (nI_leI (a := 3) (b := k37) (by omega) (by omega)).mp c40
        rewrite [if_pos c40] at h
        refine lv_aload_n hx hb dX3_chargeBatteries_63 rfl (lv_at hl 0 rfl) ?_
        refine lv_iload_n hx hb dX3_chargeBatteries_64 rfl (lv_at hl 1 rfl) ?_
        refine gcVi (wf := CW G.2 a) (N := 21) (ad := a) (As := [.int v1_37]) (rest := []) (S := S37) ⟨hx, hb, hml, hown, hts⟩ hK hP hS (c_X3_fillBatteries l G a ha v1_37 S37 _) (cwV 1 hts gX3_chargeBatteries_X3_fillBatteries rfl rfl rfl (by decide +kernel) ⟨Nat.le_of_ble_eq_true rfl, Nat.le_of_ble_eq_true rfl⟩) (crM hK hP) rfl hl.1 rfl (Nat.le_of_ble_eq_true rfl) dX3_chargeBatteries_65 ⟨Nat.le_of_ble_eq_true rfl, Nat.le_of_ble_eq_true rfl⟩ (fun p65 H locs ep65 hP hS => ?_)
        rewrite [← ep65] at h
        rewrite [f_X3_chargeBatteries_c65] at h
        refine lv_istore_n (lv' := [(2, .int p65.1), (0, .ref (a 0)), (1, .int v1_37), (3, .int (nI 3)), (4, .int (nI k37))]) hx hb dX3_chargeBatteries_68 rfl hl (by decide) rfl (fun ls hl => ?_)
        refine lv_aload_n hx hb dX3_chargeBatteries_69 rfl (lv_at hl 1 rfl) ?_
        refine lv_iload_n hx hb dX3_chargeBatteries_70 rfl (lv_at hl 0 rfl) ?_
        refine gcVi (wf := CW G.2 a) (N := 21) (ad := a) (As := [.int p65.1]) (rest := []) (S := p65.2) ⟨hx, hb, hml, hown, hts⟩ hK hP hS (c_X3_drawFromGenerators l G a ha p65.1 p65.2 _) (cwV 1 hts gX3_chargeBatteries_X3_drawFromGenerators rfl rfl rfl (by decide +kernel) ⟨Nat.le_of_ble_eq_true rfl, Nat.le_of_ble_eq_true rfl⟩) (crM hK hP) rfl hl.1 rfl (Nat.le_of_ble_eq_true rfl) dX3_chargeBatteries_71 ⟨Nat.le_of_ble_eq_true rfl, Nat.le_of_ble_eq_true rfl⟩ (fun p71 H locs ep71 hP hS => ?_)
        rewrite [← ep71] at h
        rewrite [f_X3_chargeBatteries_c71] at h
        refine lv_pop hx hb dX3_chargeBatteries_74 rfl ?_
        refine lv_aload_n hx hb dX3_chargeBatteries_75 rfl (lv_at hl 1 rfl) ?_
        refine lv_dup hx hb dX3_chargeBatteries_76 rfl ?_
        refine cgM hx hb hw3 hown hK hP 15 (by decide) (v := .int (p71.2.1 15)) rfl (hts (.fieldLink RX3 188 "BackupPower" "chargedEnergy" "I") (by decide +kernel)) dX3_chargeBatteries_77 ?_
        refine lv_iload_n hx hb dX3_chargeBatteries_80 rfl (lv_at hl 0 rfl) ?_
        refine lv_iadd hx hb dX3_chargeBatteries_81 ?_
        refine cpM hx hb hw3 hown hK ha hP hS 15 (by decide) (by decide) rfl okI (hts (.fieldLink RX3 188 "BackupPower" "chargedEnergy" "I") (by decide +kernel)) dX3_chargeBatteries_82 (fun H locs hP hS => ?_)
        exact gRv (wf := CW G.2 a) (S := (cuM p71.2 15 ((p71.2.1 15) + p65.1))) hx hb hr hlocks hP hS h dX3_chargeBatteries_85
      · have c40 : ¬ 3 ≤ k37 := fun z => c40 ((nI_leI (a := 3) (b := k37) (by omega) (by omega)).mpr z)
        rewrite [if_neg c40] at h
        refine lv_aload_n hx hb dX3_chargeBatteries_43 rfl (lv_at hl 2 rfl) ?_
        refine lv_iload hx hb dX3_chargeBatteries_44 (lv_at hl 4 rfl) ?_
        refine crdG hx hb hK hP (k := k37) (by omega) dX3_chargeBatteries_46 ?_
        refine lv_astore (lv' := [(5, .ref (a (17 + k37))), (0, .ref (a 0)), (1, .int v1_37), (2, .ref (a 3)), (3, .int (nI 3)), (4, .int (nI k37))]) hx hb dX3_chargeBatteries_47 hl (by decide) rfl (fun ls hl => ?_)
        refine lv_iload_n hx hb dX3_chargeBatteries_49 rfl (lv_at hl 2 rfl) ?_
        refine lv_aload hx hb dX3_chargeBatteries_50 (lv_at hl 0 rfl) ?_
        refine gcVi (wf := CW G.2 a) (N := 21) (ad := a) (As := []) (rest := [.int v1_37]) (S := S37) ⟨hx, hb, hml, hown, hts⟩ hK hP hS (c_X1_powerLeft l G a ha k37 (by omega) S37 _) (cwV 0 hts gX3_chargeBatteries_X1_powerLeft rfl rfl rfl (by decide +kernel) ⟨Nat.le_of_ble_eq_true rfl, Nat.le_of_ble_eq_true rfl⟩) (crG hK hP (i := k37) (by omega)) rfl hl.1 rfl (Nat.le_of_ble_eq_true rfl) dX3_chargeBatteries_52 ⟨Nat.le_of_ble_eq_true rfl, Nat.le_of_ble_eq_true rfl⟩ (fun p52 H locs ep52 hP hS => ?_)
        rewrite [← ep52] at h
        rewrite [f_X3_chargeBatteries_c52] at h
        refine lv_iadd hx hb dX3_chargeBatteries_55 ?_
        refine lv_istore_n (lv' := [(1, .int (v1_37 + p52.1)), (5, .ref (a (17 + k37))), (0, .ref (a 0)), (2, .ref (a 3)), (3, .int (nI 3)), (4, .int (nI k37))]) hx hb dX3_chargeBatteries_56 rfl hl (by decide) rfl (fun ls hl => ?_)
        refine lv_iinc (k := 5) (v := nI (k37 + 1)) (lv' := [(4, .int (nI (k37 + 1))), (1, .int (v1_37 + p52.1)), (5, .ref (a (17 + k37))), (0, .ref (a 0)), (2, .ref (a 3)), (3, .int (nI 3))]) hx hb dX3_chargeBatteries_57 hl rfl (nI_inc _) (by decide) rfl (fun ls hl => ?_)
        refine lv_goto (tgt := 37) hx hb dX3_chargeBatteries_60 (by decide) ?_
        exact ih37 (k37 + 1) p52.2 (v1_37 + p52.1) (by omega) (by omega) h _ _ _ hP hS (lv_sub hl [3, 1, 4, 5, 0] rfl)
  rewrite [f_X3_chargeBatteries] at h
  refine lv_aload_n hx hb dX3_chargeBatteries_0 rfl (lv_at hl 0 rfl) ?_
  refine cgM hx hb hw3 hown hK hP 6 (by decide) (v := .int (S.1 6)) rfl (hts (.fieldLink RX3 27 "BackupPower" "mainsUp" "Z") (by decide +kernel)) dX3_chargeBatteries_1 ?_
  refine lv_if_eq (tgt := 24) hx hb dX3_chargeBatteries_4 (by decide) (fun c4 => ?_) (fun c4 => ?_)
  · rewrite [if_pos c4] at h
    refine lv_iconst (v := 0) hx hb dX3_chargeBatteries_24 (by decide) ?_
    refine lv_istore_n (lv' := [(1, .int 0), (0, .ref (a 0))]) hx hb dX3_chargeBatteries_25 rfl hl (by decide) rfl (fun ls hl => ?_)
    refine lv_aload_n hx hb dX3_chargeBatteries_26 rfl (lv_at hl 1 rfl) ?_
    refine cgM hx hb hw3 hown hK hP 2 (by decide) (v := .ref (a 3)) rfl (hts (.fieldLink RX3 23 "BackupPower" "generators" "[LBackupPower$Generator;") (by decide +kernel)) dX3_chargeBatteries_27 ?_
    refine lv_astore_n (lv' := [(2, .ref (a 3)), (1, .int 0), (0, .ref (a 0))]) hx hb dX3_chargeBatteries_30 rfl hl (by decide) rfl (fun ls hl => ?_)
    refine lv_aload_n hx hb dX3_chargeBatteries_31 rfl (lv_at hl 0 rfl) ?_
    refine clG hx hb hK hP dX3_chargeBatteries_32 ?_
    refine lv_istore_n (lv' := [(3, .int (nI 3)), (2, .ref (a 3)), (1, .int 0), (0, .ref (a 0))]) hx hb dX3_chargeBatteries_33 rfl hl (by decide) rfl (fun ls hl => ?_)
    refine lv_iconst (v := 0) hx hb dX3_chargeBatteries_34 (by decide) ?_
    refine lv_istore (lv' := [(4, .int 0), (3, .int (nI 3)), (2, .ref (a 3)), (1, .int 0), (0, .ref (a 0))]) hx hb dX3_chargeBatteries_35 hl (by decide) rfl (fun ls hl => ?_)
    exact L37 (4) 0 S 0 (by omega) (by omega) h _ _ _ hP hS (lv_sub hl [4, 3, 2, 1, 0] rfl)
  · rewrite [if_neg c4] at h
    refine lv_aload_n hx hb dX3_chargeBatteries_7 rfl (lv_at hl 0 rfl) ?_
    refine lv_dup hx hb dX3_chargeBatteries_8 rfl ?_
    refine cgM hx hb hw3 hown hK hP 15 (by decide) (v := .int (S.1 15)) rfl (hts (.fieldLink RX3 188 "BackupPower" "chargedEnergy" "I") (by decide +kernel)) dX3_chargeBatteries_9 ?_
    refine lv_aload_n hx hb dX3_chargeBatteries_12 rfl (lv_at hl 0 rfl) ?_
    refine lv_sipush (v := 1500) hx hb dX3_chargeBatteries_13 (by decide) ?_
    refine gcVi (wf := CW G.2 a) (N := 21) (ad := a) (As := [.int 1500]) (rest := [.int (S.1 15), .ref (a 0)]) (S := S) ⟨hx, hb, hml, hown, hts⟩ hK hP hS (c_X3_fillBatteries l G a ha 1500 S _) (cwV 1 hts gX3_chargeBatteries_X3_fillBatteries rfl rfl rfl (by decide +kernel) ⟨Nat.le_of_ble_eq_true rfl, Nat.le_of_ble_eq_true rfl⟩) (crM hK hP) rfl hl.1 rfl (Nat.le_of_ble_eq_true rfl) dX3_chargeBatteries_16 ⟨Nat.le_of_ble_eq_true rfl, Nat.le_of_ble_eq_true rfl⟩ (fun p16 H locs ep16 hP hS => ?_)
    rewrite [← ep16] at h
    rewrite [f_X3_chargeBatteries_c16] at h
    refine lv_iadd hx hb dX3_chargeBatteries_19 ?_
    refine cpM hx hb hw3 hown hK ha hP hS 15 (by decide) (by decide) rfl okI (hts (.fieldLink RX3 188 "BackupPower" "chargedEnergy" "I") (by decide +kernel)) dX3_chargeBatteries_20 (fun H locs hP hS => ?_)
    exact gRv (wf := CW G.2 a) (S := (cuM p16.2 15 ((S.1 15) + p16.1))) hx hb hr hlocks hP hS h dX3_chargeBatteries_23

def f_X3_passOneMinute_c162 (K148 : Nat → CS → Int32 → Int32 × CS) (k148 : Nat) (v1_148 : Int32) (p162 : CS) : Int32 × CS := (K148 (k148 + 1) p162 v1_148)
def f_X3_passOneMinute_h148  : Nat → Nat → CS → Int32 → Int32 × CS
  | 0, _, S148, _ => (0, S148)
  | q + 1, k148, S148, v1_148 => (if 3 ≤ k148 then (v1_148, S148) else (f_X3_passOneMinute_c162  (f_X3_passOneMinute_h148  q) k148 v1_148 (f_X0_wearOut k148 S148)))
def f_X3_passOneMinute_c128 (K114 : Nat → CS → Int32 → Int32 × CS) (k114 : Nat) (v1_114 : Int32) (p128 : CS) : Int32 × CS := (K114 (k114 + 1) p128 v1_114)
def f_X3_passOneMinute_h114  : Nat → Nat → CS → Int32 → Int32 × CS
  | 0, _, S114, _ => (0, S114)
  | q + 1, k114, S114, v1_114 => (if 3 ≤ k114 then (f_X3_passOneMinute_h148  (4) 0 S114 v1_114) else (f_X3_passOneMinute_c128  (f_X3_passOneMinute_h114  q) k114 v1_114 (f_X1_burnFuel k114 S114)))
def f_X3_passOneMinute_c100 (v1_95 : Int32) (p100 : CS) : Int32 × CS := (f_X3_passOneMinute_h114  (4) 0 p100 v1_95)
def f_X3_passOneMinute_c96 (v1_95 : Int32) (p96 : CS) : Int32 × CS := (f_X3_passOneMinute_c100  v1_95 (f_X3_chargeBatteries p96))
def f_X3_passOneMinute_b95 (S95 : CS) (v1_95 : Int32) : Int32 × CS := (f_X3_passOneMinute_c96  v1_95 (f_X3_serveLoads S95))
def f_X3_passOneMinute_c92 (s0_86 : Int32) (p92 : CS) : Int32 × CS := (f_X3_passOneMinute_b95  p92 s0_86)
def f_X3_passOneMinute_b86 (S86 : CS) (s0_86 : Int32) : Int32 × CS := (if s0_86 = 0 then (f_X3_passOneMinute_c92  s0_86 (f_X3_returnLoad S86)) else (f_X3_passOneMinute_b95  S86 s0_86))
def f_X3_passOneMinute_c83 (p83 : Int32 × CS) : Int32 × CS := (f_X3_passOneMinute_b86  p83.2 p83.1)
def f_X3_passOneMinute_c68 (p68 : CS) : Int32 × CS := (if (p68.1 6) = 0 then (f_X3_passOneMinute_c83  (f_X3_shedLoads p68)) else (f_X3_passOneMinute_b86  p68 0))
def f_X3_passOneMinute_b64 (S64 : CS) (s1_64 : Int32) : Int32 × CS := (f_X3_passOneMinute_c68  (f_X3_moveGenerators (cuM S64 8 s1_64)))
def f_X3_passOneMinute_h10  : Nat → Nat → CS → Int32 × CS
  | 0, _, S10 => (0, S10)
  | q + 1, k10, S10 => (if 3 ≤ k10 then (if ((cuM S10 7 ((S10.1 7) + 1)).1 6) = 0 then (f_X3_passOneMinute_b64  (cuM S10 7 ((S10.1 7) + 1)) (((cuM S10 7 ((S10.1 7) + 1)).1 8) + 1)) else (f_X3_passOneMinute_b64  (cuM S10 7 ((S10.1 7) + 1)) 0)) else ((f_X3_passOneMinute_h10  q) (k10 + 1) (cuB S10 k10 4 (S10.2.2.1 k10 1))))
def f_X3_passOneMinute (S : CS) : Int32 × CS := (f_X3_passOneMinute_h10  (4) 0 S)
set_option maxHeartbeats 4000000 in
set_option maxRecDepth 100000 in
theorem c_X3_passOneMinute (l : Launch) (G : WG) (a : Nat → Nat) (ha : wInj 21 a)  (S : CS) (sz : Nat) : gMi l yX3_passOneMinute wsX3_passOneMinute ({ frames := 4, cells := 0, slots := 0, locals := 93 }) G 21 a (CW G.2 a) [.ref (a 0)] S sz (f_X3_passOneMinute  S) := by
  unfold gMi
  refine Met.ofW (cc := cX3_passOneMinute) (maxL := 6) (ret := (some .int)) (by decide) rfl ?_
  intro p e s m args below meth c s₁ B hml hv
  obtain ⟨rfl, rfl, hP, hK⟩ := hv
  have hx := B.exec
  have hb := B.bytes
  have hr := B.returns
  have hts := atoms_spec (ws := wsX3_passOneMinute) B.pre
  have hown : s.vm.findClass RX3 = some m.cls := findClass_of_methodNamed B.named
  have hlocks := B.notSynchronized
  have hS : va_S (wA 21 a s.heap.size) s.heap s.heap [] := va_S.rf
  have hw0 : ∀ w ∈ wsX00, w.before ([.ref (a 0)] : List Value).toArray s = true := fun w hw => hts w ((by decide +kernel : ∀ w ∈ wsX00, w ∈ wsX3_passOneMinute) w hw)
  have hw3 : ∀ w ∈ wsX30, w.before ([.ref (a 0)] : List Value).toArray s = true := fun w hw => hts w ((by decide +kernel : ∀ w ∈ wsX30, w ∈ wsX3_passOneMinute) w hw)
  have hl := lv_entry ([.ref (a 0)]) (n := 6) (Nat.le_of_ble_eq_true rfl)
  rw [lg_entry_eq]
  generalize (lg_sl ([.ref (a 0)] : List Value) ++ List.replicate (6 - (lg_sl ([.ref (a 0)] : List Value)).length) Slot.unset).toArray = ls at hl ⊢
  have hl : lv_has ls 6 [(0, .ref (a 0))] := hl
  generalize hF : f_X3_passOneMinute  S = F
  have h : f_X3_passOneMinute  S = F := hF
  clear hF
  show W p l e ({ frames := 4, cells := 0, slots := 0, locals := 93 } : Room) s m ([.ref (a 0)] : List Value).toArray below meth c s.heap [] 0 0 (gQi below G (CW G.2 a) 21 a F ([.ref (a 0)] : List Value).toArray s) (F0 m 0 ls [])
  have L10 : ∀ (q10 : Nat) (k10 : Nat) (S10 : CS), k10 ≤ 3 → 3 < k10 + q10 → f_X3_passOneMinute_h10  q10 k10 S10 = F → ∀ (H : Heap) (locs : List Loc) (ls : Array Slot), wC G a S10 H → va_S (wA 21 a s.heap.size) s.heap H locs → lv_has ls 6 [(0, .ref (a 0)), (1, .ref (a 2)), (2, .int (nI 3)), (3, .int (nI k10))] → W p l e ({ frames := 4, cells := 0, slots := 0, locals := 93 } : Room) s m ([.ref (a 0)] : List Value).toArray below meth c H locs 0 0 (gQi below G (CW G.2 a) 21 a F ([.ref (a 0)] : List Value).toArray s) (F0 m 10 ls []) := by
    intro q10
    induction q10 with
    | zero => intro k10 S10 hk10 hq10 h H locs ls hP hS hl; omega
    | succ q10 ih10 =>
      intro k10 S10 hk10 hq10 h H locs ls hP hS hl
      have J64 : ∀ (S64 : CS) (s1_64 : Int32), f_X3_passOneMinute_b64  S64 s1_64 = F → ∀ (H : Heap) (locs : List Loc) (ls : Array Slot), wC G a S64 H → va_S (wA 21 a s.heap.size) s.heap H locs → lv_has ls 6 [(0, .ref (a 0))] → W p l e ({ frames := 4, cells := 0, slots := 0, locals := 93 } : Room) s m ([.ref (a 0)] : List Value).toArray below meth c H locs 0 0 (gQi below G (CW G.2 a) 21 a F ([.ref (a 0)] : List Value).toArray s) (F0 m 64 ls [.int s1_64, .ref (a 0)]) := by
        intro S64 s1_64 h H locs ls hP hS hl
        have J86 : ∀ (S86 : CS) (s0_86 : Int32), f_X3_passOneMinute_b86  S86 s0_86 = F → ∀ (H : Heap) (locs : List Loc) (ls : Array Slot), wC G a S86 H → va_S (wA 21 a s.heap.size) s.heap H locs → lv_has ls 6 [(0, .ref (a 0))] → W p l e ({ frames := 4, cells := 0, slots := 0, locals := 93 } : Room) s m ([.ref (a 0)] : List Value).toArray below meth c H locs 0 0 (gQi below G (CW G.2 a) 21 a F ([.ref (a 0)] : List Value).toArray s) (F0 m 86 ls [.int s0_86]) := by
          intro S86 s0_86 h H locs ls hP hS hl
          have J95 : ∀ (S95 : CS) (v1_95 : Int32), f_X3_passOneMinute_b95  S95 v1_95 = F → ∀ (H : Heap) (locs : List Loc) (ls : Array Slot), wC G a S95 H → va_S (wA 21 a s.heap.size) s.heap H locs → lv_has ls 6 [(0, .ref (a 0)), (1, .int v1_95)] → W p l e ({ frames := 4, cells := 0, slots := 0, locals := 93 } : Room) s m ([.ref (a 0)] : List Value).toArray below meth c H locs 0 0 (gQi below G (CW G.2 a) 21 a F ([.ref (a 0)] : List Value).toArray s) (F0 m 95 ls []) := by
            intro S95 v1_95 h H locs ls hP hS hl
            have L114 : ∀ (q114 : Nat) (k114 : Nat) (S114 : CS) (v1_114 : Int32), k114 ≤ 3 → 3 < k114 + q114 → f_X3_passOneMinute_h114  q114 k114 S114 v1_114 = F → ∀ (H : Heap) (locs : List Loc) (ls : Array Slot), wC G a S114 H → va_S (wA 21 a s.heap.size) s.heap H locs → lv_has ls 6 [(0, .ref (a 0)), (1, .int v1_114), (2, .ref (a 3)), (3, .int (nI 3)), (4, .int (nI k114))] → W p l e ({ frames := 4, cells := 0, slots := 0, locals := 93 } : Room) s m ([.ref (a 0)] : List Value).toArray below meth c H locs 0 0 (gQi below G (CW G.2 a) 21 a F ([.ref (a 0)] : List Value).toArray s) (F0 m 114 ls []) := by
              intro q114
              induction q114 with
              | zero => intro k114 S114 v1_114 hk114 hq114 h H locs ls hP hS hl; omega
              | succ q114 ih114 =>
                intro k114 S114 v1_114 hk114 hq114 h H locs ls hP hS hl
                have L148 : ∀ (q148 : Nat) (k148 : Nat) (S148 : CS) (v1_148 : Int32), k148 ≤ 3 → 3 < k148 + q148 → f_X3_passOneMinute_h148  q148 k148 S148 v1_148 = F → ∀ (H : Heap) (locs : List Loc) (ls : Array Slot), wC G a S148 H → va_S (wA 21 a s.heap.size) s.heap H locs → lv_has ls 6 [(1, .int v1_148), (2, .ref (a 2)), (3, .int (nI 3)), (4, .int (nI k148))] → W p l e ({ frames := 4, cells := 0, slots := 0, locals := 93 } : Room) s m ([.ref (a 0)] : List Value).toArray below meth c H locs 0 0 (gQi below G (CW G.2 a) 21 a F ([.ref (a 0)] : List Value).toArray s) (F0 m 148 ls []) := by
                  intro q148
                  induction q148 with
                  | zero => intro k148 S148 v1_148 hk148 hq148 h H locs ls hP hS hl; omega
                  | succ q148 ih148 =>
                    intro k148 S148 v1_148 hk148 hq148 h H locs ls hP hS hl
                    rewrite [f_X3_passOneMinute_h148] at h
                    refine lv_iload hx hb dX3_passOneMinute_148 (lv_at hl 3 rfl) ?_
                    refine lv_iload_n hx hb dX3_passOneMinute_150 rfl (lv_at hl 2 rfl) ?_
                    refine lv_icmp_ge (tgt := 171) hx hb dX3_passOneMinute_151 (by decide) (fun c151 => ?_) (fun c151 => ?_)
                    · have c151 : 3 ≤ k148 := (nI_leI (a := 3) (b := k148) (by omega) (by omega)).mp c151
                      rewrite [if_pos c151] at h
                      refine lv_iload_n hx hb dX3_passOneMinute_171 rfl (lv_at hl 0 rfl) ?_
                      exact gRi (wf := CW G.2 a) (S := S148) hx hb hr hlocks hP hS h dX3_passOneMinute_172
                    · have c151 : ¬ 3 ≤ k148 := fun z => c151 ((nI_leI (a := 3) (b := k148) (by omega) (by omega)).mpr z)
                      rewrite [if_neg c151] at h
                      refine lv_aload_n hx hb dX3_passOneMinute_154 rfl (lv_at hl 1 rfl) ?_
                      refine lv_iload hx hb dX3_passOneMinute_155 (lv_at hl 3 rfl) ?_
                      refine crdB hx hb hK hP (k := k148) (by omega) dX3_passOneMinute_157 ?_
                      refine lv_astore (lv' := [(5, .ref (a (14 + k148))), (1, .int v1_148), (2, .ref (a 2)), (3, .int (nI 3)), (4, .int (nI k148))]) hx hb dX3_passOneMinute_158 hl (by decide) rfl (fun ls hl => ?_)
                      refine lv_aload hx hb dX3_passOneMinute_160 (lv_at hl 0 rfl) ?_
                      refine gcVv (wf := CW G.2 a) (N := 21) (ad := a) (As := []) (rest := []) (S := S148) ⟨hx, hb, hml, hown, hts⟩ hK hP hS (c_X0_wearOut l G a ha k148 (by omega) S148 _) (cwV 0 hts gX3_passOneMinute_X0_wearOut rfl rfl rfl (by decide +kernel) ⟨Nat.le_of_ble_eq_true rfl, Nat.le_of_ble_eq_true rfl⟩) (crB hK hP (i := k148) (by omega)) rfl hl.1 rfl (Nat.le_of_ble_eq_true rfl) dX3_passOneMinute_162 ⟨Nat.le_of_ble_eq_true rfl, Nat.le_of_ble_eq_true rfl⟩ (fun p162 H locs ep162 hP hS => ?_)
                      rewrite [← ep162] at h
                      rewrite [f_X3_passOneMinute_c162] at h
                      refine lv_iinc (k := 4) (v := nI (k148 + 1)) (lv' := [(4, .int (nI (k148 + 1))), (5, .ref (a (14 + k148))), (1, .int v1_148), (2, .ref (a 2)), (3, .int (nI 3))]) hx hb dX3_passOneMinute_165 hl rfl (nI_inc _) (by decide) rfl (fun ls hl => ?_)
                      refine lv_goto (tgt := 148) hx hb dX3_passOneMinute_168 (by decide) ?_
                      exact ih148 (k148 + 1) p162 v1_148 (by omega) (by omega) h _ _ _ hP hS (lv_sub hl [2, 3, 4, 0] rfl)
                rewrite [f_X3_passOneMinute_h114] at h
                refine lv_iload hx hb dX3_passOneMinute_114 (lv_at hl 4 rfl) ?_
                refine lv_iload_n hx hb dX3_passOneMinute_116 rfl (lv_at hl 3 rfl) ?_
                refine lv_icmp_ge (tgt := 137) hx hb dX3_passOneMinute_117 (by decide) (fun c117 => ?_) (fun c117 => ?_)
                · have c117 : 3 ≤ k114 := (nI_leI (a := 3) (b := k114) (by omega) (by omega)).mp c117
                  rewrite [if_pos c117] at h
                  refine lv_aload_n hx hb dX3_passOneMinute_137 rfl (lv_at hl 0 rfl) ?_
                  refine cgM hx hb hw3 hown hK hP 1 (by decide) (v := .ref (a 2)) rfl (hts (.fieldLink RX3 17 "BackupPower" "batteries" "[LBackupPower$Battery;") (by decide +kernel)) dX3_passOneMinute_138 ?_
                  refine lv_astore_n (lv' := [(2, .ref (a 2)), (0, .ref (a 0)), (1, .int v1_114), (3, .int (nI 3)), (4, .int (nI k114))]) hx hb dX3_passOneMinute_141 rfl hl (by decide) rfl (fun ls hl => ?_)
                  refine lv_aload_n hx hb dX3_passOneMinute_142 rfl (lv_at hl 0 rfl) ?_
                  refine clB hx hb hK hP dX3_passOneMinute_143 ?_
                  refine lv_istore_n (lv' := [(3, .int (nI 3)), (2, .ref (a 2)), (0, .ref (a 0)), (1, .int v1_114), (4, .int (nI k114))]) hx hb dX3_passOneMinute_144 rfl hl (by decide) rfl (fun ls hl => ?_)
                  refine lv_iconst (v := 0) hx hb dX3_passOneMinute_145 (by decide) ?_
                  refine lv_istore (lv' := [(4, .int 0), (3, .int (nI 3)), (2, .ref (a 2)), (0, .ref (a 0)), (1, .int v1_114)]) hx hb dX3_passOneMinute_146 hl (by decide) rfl (fun ls hl => ?_)
                  exact L148 (4) 0 S114 v1_114 (by omega) (by omega) h _ _ _ hP hS (lv_sub hl [4, 2, 1, 0] rfl)
                · have c117 : ¬ 3 ≤ k114 := fun z => c117 ((nI_leI (a := 3) (b := k114) (by omega) (by omega)).mpr z)
                  rewrite [if_neg c117] at h
                  refine lv_aload_n hx hb dX3_passOneMinute_120 rfl (lv_at hl 2 rfl) ?_
                  refine lv_iload hx hb dX3_passOneMinute_121 (lv_at hl 4 rfl) ?_
                  refine crdG hx hb hK hP (k := k114) (by omega) dX3_passOneMinute_123 ?_
                  refine lv_astore (lv' := [(5, .ref (a (17 + k114))), (0, .ref (a 0)), (1, .int v1_114), (2, .ref (a 3)), (3, .int (nI 3)), (4, .int (nI k114))]) hx hb dX3_passOneMinute_124 hl (by decide) rfl (fun ls hl => ?_)
                  refine lv_aload hx hb dX3_passOneMinute_126 (lv_at hl 0 rfl) ?_
                  refine gcVv (wf := CW G.2 a) (N := 21) (ad := a) (As := []) (rest := []) (S := S114) ⟨hx, hb, hml, hown, hts⟩ hK hP hS (c_X1_burnFuel l G a ha k114 (by omega) S114 _) (cwV 0 hts gX3_passOneMinute_X1_burnFuel rfl rfl rfl (by decide +kernel) ⟨Nat.le_of_ble_eq_true rfl, Nat.le_of_ble_eq_true rfl⟩) (crG hK hP (i := k114) (by omega)) rfl hl.1 rfl (Nat.le_of_ble_eq_true rfl) dX3_passOneMinute_128 ⟨Nat.le_of_ble_eq_true rfl, Nat.le_of_ble_eq_true rfl⟩ (fun p128 H locs ep128 hP hS => ?_)
                  rewrite [← ep128] at h
                  rewrite [f_X3_passOneMinute_c128] at h
                  refine lv_iinc (k := 5) (v := nI (k114 + 1)) (lv' := [(4, .int (nI (k114 + 1))), (5, .ref (a (17 + k114))), (0, .ref (a 0)), (1, .int v1_114), (2, .ref (a 3)), (3, .int (nI 3))]) hx hb dX3_passOneMinute_131 hl rfl (nI_inc _) (by decide) rfl (fun ls hl => ?_)
                  refine lv_goto (tgt := 114) hx hb dX3_passOneMinute_134 (by decide) ?_
                  exact ih114 (k114 + 1) p128 v1_114 (by omega) (by omega) h _ _ _ hP hS (lv_sub hl [2, 3, 4, 5, 0] rfl)
            rewrite [f_X3_passOneMinute_b95] at h
            refine lv_aload_n hx hb dX3_passOneMinute_95 rfl (lv_at hl 0 rfl) ?_
            refine gcVv (wf := CW G.2 a) (N := 21) (ad := a) (As := []) (rest := []) (S := S95) ⟨hx, hb, hml, hown, hts⟩ hK hP hS (c_X3_serveLoads l G a ha  S95 _) (cwV 0 hts gX3_passOneMinute_X3_serveLoads rfl rfl rfl (by decide +kernel) ⟨Nat.le_of_ble_eq_true rfl, Nat.le_of_ble_eq_true rfl⟩) (crM hK hP) rfl hl.1 rfl (Nat.le_of_ble_eq_true rfl) dX3_passOneMinute_96 ⟨Nat.le_of_ble_eq_true rfl, Nat.le_of_ble_eq_true rfl⟩ (fun p96 H locs ep96 hP hS => ?_)
            rewrite [← ep96] at h
            rewrite [f_X3_passOneMinute_c96] at h
            refine lv_aload_n hx hb dX3_passOneMinute_99 rfl (lv_at hl 0 rfl) ?_
            refine gcVv (wf := CW G.2 a) (N := 21) (ad := a) (As := []) (rest := []) (S := p96) ⟨hx, hb, hml, hown, hts⟩ hK hP hS (c_X3_chargeBatteries l G a ha  p96 _) (cwV 0 hts gX3_passOneMinute_X3_chargeBatteries rfl rfl rfl (by decide +kernel) ⟨Nat.le_of_ble_eq_true rfl, Nat.le_of_ble_eq_true rfl⟩) (crM hK hP) rfl hl.1 rfl (Nat.le_of_ble_eq_true rfl) dX3_passOneMinute_100 ⟨Nat.le_of_ble_eq_true rfl, Nat.le_of_ble_eq_true rfl⟩ (fun p100 H locs ep100 hP hS => ?_)
            rewrite [← ep100] at h
            rewrite [f_X3_passOneMinute_c100] at h
            refine lv_aload_n hx hb dX3_passOneMinute_103 rfl (lv_at hl 0 rfl) ?_
            refine cgM hx hb hw3 hown hK hP 2 (by decide) (v := .ref (a 3)) rfl (hts (.fieldLink RX3 23 "BackupPower" "generators" "[LBackupPower$Generator;") (by decide +kernel)) dX3_passOneMinute_104 ?_
            refine lv_astore_n (lv' := [(2, .ref (a 3)), (0, .ref (a 0)), (1, .int v1_95)]) hx hb dX3_passOneMinute_107 rfl hl (by decide) rfl (fun ls hl => ?_)
            refine lv_aload_n hx hb dX3_passOneMinute_108 rfl (lv_at hl 0 rfl) ?_
            refine clG hx hb hK hP dX3_passOneMinute_109 ?_
            refine lv_istore_n (lv' := [(3, .int (nI 3)), (2, .ref (a 3)), (0, .ref (a 0)), (1, .int v1_95)]) hx hb dX3_passOneMinute_110 rfl hl (by decide) rfl (fun ls hl => ?_)
            refine lv_iconst (v := 0) hx hb dX3_passOneMinute_111 (by decide) ?_
            refine lv_istore (lv' := [(4, .int 0), (3, .int (nI 3)), (2, .ref (a 3)), (0, .ref (a 0)), (1, .int v1_95)]) hx hb dX3_passOneMinute_112 hl (by decide) rfl (fun ls hl => ?_)
            exact L114 (4) 0 p100 v1_95 (by omega) (by omega) h _ _ _ hP hS (lv_sub hl [3, 4, 2, 1, 0] rfl)
          rewrite [f_X3_passOneMinute_b86] at h
          refine lv_istore_n (lv' := [(1, .int s0_86), (0, .ref (a 0))]) hx hb dX3_passOneMinute_86 rfl hl (by decide) rfl (fun ls hl => ?_)
          refine lv_iload_n hx hb dX3_passOneMinute_87 rfl (lv_at hl 0 rfl) ?_
          refine lv_if_ne (tgt := 95) hx hb dX3_passOneMinute_88 (by decide) (fun c88 => ?_) (fun c88 => ?_)
          · rewrite [if_neg c88] at h
            exact J95 S86 s0_86 h _ _ _ hP hS (lv_sub hl [1, 0] rfl)
          · rewrite [if_pos c88] at h
            refine lv_aload_n hx hb dX3_passOneMinute_91 rfl (lv_at hl 1 rfl) ?_
            refine gcVv (wf := CW G.2 a) (N := 21) (ad := a) (As := []) (rest := []) (S := S86) ⟨hx, hb, hml, hown, hts⟩ hK hP hS (c_X3_returnLoad l G a ha  S86 _) (cwV 0 hts gX3_passOneMinute_X3_returnLoad rfl rfl rfl (by decide +kernel) ⟨Nat.le_of_ble_eq_true rfl, Nat.le_of_ble_eq_true rfl⟩) (crM hK hP) rfl hl.1 rfl (Nat.le_of_ble_eq_true rfl) dX3_passOneMinute_92 ⟨Nat.le_of_ble_eq_true rfl, Nat.le_of_ble_eq_true rfl⟩ (fun p92 H locs ep92 hP hS => ?_)
            rewrite [← ep92] at h
            rewrite [f_X3_passOneMinute_c92] at h
            exact J95 p92 s0_86 h _ _ _ hP hS (lv_sub hl [1, 0] rfl)
        rewrite [f_X3_passOneMinute_b64] at h
        refine cpM hx hb hw3 hown hK ha hP hS 8 (by decide) (by decide) rfl okI (hts (.fieldLink RX3 139 "BackupPower" "outageMinutes" "I") (by decide +kernel)) dX3_passOneMinute_64 (fun H locs hP hS => ?_)
        refine lv_aload_n hx hb dX3_passOneMinute_67 rfl (lv_at hl 0 rfl) ?_
        refine gcVv (wf := CW G.2 a) (N := 21) (ad := a) (As := []) (rest := []) (S := cuM S64 8 s1_64) ⟨hx, hb, hml, hown, hts⟩ hK hP hS (c_X3_moveGenerators l G a ha  (cuM S64 8 s1_64) _) (cwV 0 hts gX3_passOneMinute_X3_moveGenerators rfl rfl rfl (by decide +kernel) ⟨Nat.le_of_ble_eq_true rfl, Nat.le_of_ble_eq_true rfl⟩) (crM hK hP) rfl hl.1 rfl (Nat.le_of_ble_eq_true rfl) dX3_passOneMinute_68 ⟨Nat.le_of_ble_eq_true rfl, Nat.le_of_ble_eq_true rfl⟩ (fun p68 H locs ep68 hP hS => ?_)
        rewrite [← ep68] at h
        rewrite [f_X3_passOneMinute_c68] at h
        refine lv_aload_n hx hb dX3_passOneMinute_71 rfl (lv_at hl 0 rfl) ?_
        refine cgM hx hb hw3 hown hK hP 6 (by decide) (v := .int (p68.1 6)) rfl (hts (.fieldLink RX3 27 "BackupPower" "mainsUp" "Z") (by decide +kernel)) dX3_passOneMinute_72 ?_
        refine lv_if_eq (tgt := 82) hx hb dX3_passOneMinute_75 (by decide) (fun c75 => ?_) (fun c75 => ?_)
        · rewrite [if_pos c75] at h
          refine lv_aload_n hx hb dX3_passOneMinute_82 rfl (lv_at hl 0 rfl) ?_
          refine gcVi (wf := CW G.2 a) (N := 21) (ad := a) (As := []) (rest := []) (S := p68) ⟨hx, hb, hml, hown, hts⟩ hK hP hS (c_X3_shedLoads l G a ha  p68 _) (cwV 0 hts gX3_passOneMinute_X3_shedLoads rfl rfl rfl (by decide +kernel) ⟨Nat.le_of_ble_eq_true rfl, Nat.le_of_ble_eq_true rfl⟩) (crM hK hP) rfl hl.1 rfl (Nat.le_of_ble_eq_true rfl) dX3_passOneMinute_83 ⟨Nat.le_of_ble_eq_true rfl, Nat.le_of_ble_eq_true rfl⟩ (fun p83 H locs ep83 hP hS => ?_)
          rewrite [← ep83] at h
          rewrite [f_X3_passOneMinute_c83] at h
          exact J86 p83.2 p83.1 h _ _ _ hP hS (lv_sub hl [0] rfl)
        · rewrite [if_neg c75] at h
          refine lv_iconst (v := 0) hx hb dX3_passOneMinute_78 (by decide) ?_
          refine lv_goto (tgt := 86) hx hb dX3_passOneMinute_79 (by decide) ?_
          exact J86 p68 0 h _ _ _ hP hS (lv_sub hl [0] rfl)
      rewrite [f_X3_passOneMinute_h10] at h
      refine lv_iload_n hx hb dX3_passOneMinute_10 rfl (lv_at hl 3 rfl) ?_
      refine lv_iload_n hx hb dX3_passOneMinute_11 rfl (lv_at hl 2 rfl) ?_
      refine lv_icmp_ge (tgt := 36) hx hb dX3_passOneMinute_12 (by decide) (fun c12 => ?_) (fun c12 => ?_)
      · have c12 : 3 ≤ k10 := (nI_leI (a := 3) (b := k10) (by omega) (by omega)).mp c12
        rewrite [if_pos c12] at h
        refine lv_aload_n hx hb dX3_passOneMinute_36 rfl (lv_at hl 0 rfl) ?_
        refine lv_dup hx hb dX3_passOneMinute_37 rfl ?_
        refine cgM hx hb hw3 hown hK hP 7 (by decide) (v := .int (S10.1 7)) rfl (hts (.fieldLink RX3 136 "BackupPower" "minutesPassed" "I") (by decide +kernel)) dX3_passOneMinute_38 ?_
        refine lv_iconst (v := 1) hx hb dX3_passOneMinute_41 (by decide) ?_
        refine lv_iadd hx hb dX3_passOneMinute_42 ?_
        refine cpM hx hb hw3 hown hK ha hP hS 7 (by decide) (by decide) rfl okI (hts (.fieldLink RX3 136 "BackupPower" "minutesPassed" "I") (by decide +kernel)) dX3_passOneMinute_43 (fun H locs hP hS => ?_)
        refine lv_aload_n hx hb dX3_passOneMinute_46 rfl (lv_at hl 0 rfl) ?_
        refine lv_aload_n hx hb dX3_passOneMinute_47 rfl (lv_at hl 0 rfl) ?_
        refine cgM hx hb hw3 hown hK hP 6 (by decide) (v := .int ((cuM S10 7 ((S10.1 7) + 1)).1 6)) rfl (hts (.fieldLink RX3 27 "BackupPower" "mainsUp" "Z") (by decide +kernel)) dX3_passOneMinute_48 ?_
        refine lv_if_eq (tgt := 58) hx hb dX3_passOneMinute_51 (by decide) (fun c51 => ?_) (fun c51 => ?_)
        · rewrite [if_pos c51] at h
          refine lv_aload_n hx hb dX3_passOneMinute_58 rfl (lv_at hl 0 rfl) ?_
          refine cgM hx hb hw3 hown hK hP 8 (by decide) (v := .int ((cuM S10 7 ((S10.1 7) + 1)).1 8)) rfl (hts (.fieldLink RX3 139 "BackupPower" "outageMinutes" "I") (by decide +kernel)) dX3_passOneMinute_59 ?_
          refine lv_iconst (v := 1) hx hb dX3_passOneMinute_62 (by decide) ?_
          refine lv_iadd hx hb dX3_passOneMinute_63 ?_
          exact J64 (cuM S10 7 ((S10.1 7) + 1)) (((cuM S10 7 ((S10.1 7) + 1)).1 8) + 1) h _ _ _ hP hS (lv_sub hl [0] rfl)
        · rewrite [if_neg c51] at h
          refine lv_iconst (v := 0) hx hb dX3_passOneMinute_54 (by decide) ?_
          refine lv_goto (tgt := 64) hx hb dX3_passOneMinute_55 (by decide) ?_
          exact J64 (cuM S10 7 ((S10.1 7) + 1)) 0 h _ _ _ hP hS (lv_sub hl [0] rfl)
      · have c12 : ¬ 3 ≤ k10 := fun z => c12 ((nI_leI (a := 3) (b := k10) (by omega) (by omega)).mpr z)
        rewrite [if_neg c12] at h
        refine lv_aload_n hx hb dX3_passOneMinute_15 rfl (lv_at hl 1 rfl) ?_
        refine lv_iload_n hx hb dX3_passOneMinute_16 rfl (lv_at hl 3 rfl) ?_
        refine crdB hx hb hK hP (k := k10) (by omega) dX3_passOneMinute_17 ?_
        refine lv_astore (lv' := [(4, .ref (a (14 + k10))), (0, .ref (a 0)), (1, .ref (a 2)), (2, .int (nI 3)), (3, .int (nI k10))]) hx hb dX3_passOneMinute_18 hl (by decide) rfl (fun ls hl => ?_)
        refine lv_aload hx hb dX3_passOneMinute_20 (lv_at hl 0 rfl) ?_
        refine lv_aload hx hb dX3_passOneMinute_22 (lv_at hl 0 rfl) ?_
        refine cgB hx hb hw0 hown hK hP (i := k10) (by omega) 1 (by decide) (hts (.fieldLink RX3 153 "BackupPower$Battery" "charge" "I") (by decide +kernel)) dX3_passOneMinute_24 ?_
        refine cpB hx hb hw0 hown hK ha hP hS (i := k10) (by omega) 4 (by decide) rfl okI (hts (.fieldLink RX3 215 "BackupPower$Battery" "chargeAhead" "I") (by decide +kernel)) dX3_passOneMinute_27 (fun H locs hP hS => ?_)
        refine lv_iinc (k := 4) (v := nI (k10 + 1)) (lv' := [(3, .int (nI (k10 + 1))), (4, .ref (a (14 + k10))), (0, .ref (a 0)), (1, .ref (a 2)), (2, .int (nI 3))]) hx hb dX3_passOneMinute_30 hl rfl (nI_inc _) (by decide) rfl (fun ls hl => ?_)
        refine lv_goto (tgt := 10) hx hb dX3_passOneMinute_33 (by decide) ?_
        exact ih10 (k10 + 1) (cuB S10 k10 4 (S10.2.2.1 k10 1)) (by omega) (by omega) h _ _ _ hP hS (lv_sub hl [2, 3, 4, 0] rfl)
  rewrite [f_X3_passOneMinute] at h
  refine lv_aload_n hx hb dX3_passOneMinute_0 rfl (lv_at hl 0 rfl) ?_
  refine cgM hx hb hw3 hown hK hP 1 (by decide) (v := .ref (a 2)) rfl (hts (.fieldLink RX3 17 "BackupPower" "batteries" "[LBackupPower$Battery;") (by decide +kernel)) dX3_passOneMinute_1 ?_
  refine lv_astore_n (lv' := [(1, .ref (a 2)), (0, .ref (a 0))]) hx hb dX3_passOneMinute_4 rfl hl (by decide) rfl (fun ls hl => ?_)
  refine lv_aload_n hx hb dX3_passOneMinute_5 rfl (lv_at hl 0 rfl) ?_
  refine clB hx hb hK hP dX3_passOneMinute_6 ?_
  refine lv_istore_n (lv' := [(2, .int (nI 3)), (1, .ref (a 2)), (0, .ref (a 0))]) hx hb dX3_passOneMinute_7 rfl hl (by decide) rfl (fun ls hl => ?_)
  refine lv_iconst (v := 0) hx hb dX3_passOneMinute_8 (by decide) ?_
  refine lv_istore_n (lv' := [(3, .int 0), (2, .int (nI 3)), (1, .ref (a 2)), (0, .ref (a 0))]) hx hb dX3_passOneMinute_9 rfl hl (by decide) rfl (fun ls hl => ?_)
  exact L10 (4) 0 S (by omega) (by omega) h _ _ _ hP hS (lv_sub hl [3, 2, 1, 0] rfl)
