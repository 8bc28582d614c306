/-! ===== calls of the class with arguments that it takes: none of them throws ===== -/
section XI
variable {p : Program} {l : Launch} {e : Env} {R : Room} {s : State} {m : MethodId} {args : Array Value} {below : List Frame} {meth : Method} {c : Code} {H : Heap} {locs : List Loc} {cells slots : Nat} {Q : State → Prop}
variable {cc : ByteArray} {pc : Nat} {ls : Array Slot} {rest : List Value} {G : WG}
theorem crdLI {a : Nat → Nat} {S : CS} (hx : p.tables.exec = Jvm.exec) (hb : c.code = cc) (hK : wK G s) (hP : wC G a S H) {i : Int32} (hi : vp_in i 10) (hdg : decode cc pc = .ok (.aaload, 1))
    (kk : W p l e R s m args below meth c H locs cells slots Q (F0 m (pc + 1) ls (.ref (a (4 + i.toNatClampNeg)) :: rest))) : W p l e R s m args below meth c H locs cells slots Q (F0 m pc ls (.int i :: .ref (a 1) :: rest)) :=
  va_aldq (D := G.1) (cA := G.2 2) (C := RX2) (n := 10) (f := fun i => some (a (4 + i))) hx hb hK hP 1 2 (wl_get (by decide)) rfl hi hdg kk
theorem crdBI {a : Nat → Nat} {S : CS} (hx : p.tables.exec = Jvm.exec) (hb : c.code = cc) (hK : wK G s) (hP : wC G a S H) {i : Int32} (hi : vp_in i 3) (hdg : decode cc pc = .ok (.aaload, 1))
    (kk : W p l e R s m args below meth c H locs cells slots Q (F0 m (pc + 1) ls (.ref (a (14 + i.toNatClampNeg)) :: rest))) : W p l e R s m args below meth c H locs cells slots Q (F0 m pc ls (.int i :: .ref (a 2) :: rest)) :=
  va_aldq (D := G.1) (cA := G.2 3) (C := RX0) (n := 3) (f := fun i => some (a (14 + i))) hx hb hK hP 2 3 (wl_get (by decide)) rfl hi hdg kk
theorem crdGI {a : Nat → Nat} {S : CS} (hx : p.tables.exec = Jvm.exec) (hb : c.code = cc) (hK : wK G s) (hP : wC G a S H) {i : Int32} (hi : vp_in i 3) (hdg : decode cc pc = .ok (.aaload, 1))
    (kk : W p l e R s m args below meth c H locs cells slots Q (F0 m (pc + 1) ls (.ref (a (17 + i.toNatClampNeg)) :: rest))) : W p l e R s m args below meth c H locs cells slots Q (F0 m pc ls (.int i :: .ref (a 3) :: rest)) :=
  va_aldq (D := G.1) (cA := G.2 4) (C := RX1) (n := 3) (f := fun i => some (a (17 + i))) hx hb hK hP 3 4 (wl_get (by decide)) rfl hi hdg kk
end XI
theorem fd_0 {k : Nat} (h : k < 10) : ¬ nI k < 0 := by
  intro c
  rw [Int32.lt_iff_toInt_lt, nI_toInt (by omega)] at c
  have h3 : (0 : Int32).toInt = 0 := by decide
  omega
theorem fd_1 {k B : Nat} {v : Int32} (hB : B ≤ 10) (h : ∃ n, k < n ∧ n ≤ B ∧ v = nI n) : nI k < v := by
  obtain ⟨n, h1, h2, rfl⟩ := h
  rw [Int32.lt_iff_toInt_lt, nI_toInt (by omega), nI_toInt (by omega)]
  omega
theorem ad_1 {B : Nat} {v : Int32} (hB : B ≤ 10) (h : ∃ n, n < B ∧ v = nI n) : v < nI B := by
  obtain ⟨n, h1, rfl⟩ := h
  rw [Int32.lt_iff_toInt_lt, nI_toInt (by omega), nI_toInt (by omega)]
  omega
theorem ad_2 {B : Nat} {v : Int32} (hB : B ≤ 10) (h : ∃ n, n < B ∧ v = nI n) : vp_in v B := by
  obtain ⟨n, h1, rfl⟩ := h
  exact vp_in_nI h1 (by omega)
theorem isO_0 {x lo hi : Int32} {S : CS} (h : lo.toInt ≤ x.toInt ∧ x.toInt ≤ hi.toInt) : f_X3_isOutside x lo hi S = (0, S) := by
  unfold f_X3_isOutside
  rw [if_neg (by rw [Int32.lt_iff_toInt_lt]; omega), if_pos (by rw [Int32.le_iff_toInt_le]; omega)]
  rfl
theorem q_isO (l : Launch) (G : WG) (a : Nat → Nat) (ha : wInj 21 a) (x1 x2 x3 : Int32) (S : CS) (h : x2.toInt ≤ x1.toInt ∧ x1.toInt ≤ x3.toInt) (sz : Nat) : gMz l yX3_isOutside wsX3_isOutside ({ frames := 0, cells := 0, slots := 0, locals := 0 }) G 21 a (CW G.2 a) [.int x1, .int x2, .int x3] S sz (0, S) := by
  have h1 := c_X3_isOutside l G a ha x1 x2 x3 S sz
  rw [isO_0 h] at h1
  exact h1
theorem ps_r {k : Nat} (h1 : 1 ≤ k) (h2 : k ≤ 500) : (1 : Int32).toInt ≤ (nI k).toInt ∧ (nI k).toInt ≤ (500 : Int32).toInt := by
  have e1 : (1 : Int32).toInt = 1 := by decide
  have e2 : (500 : Int32).toInt = 500 := by decide
  rw [nI_toInt (by omega), e1, e2]
  omega
def f_X3_findLoad (x1 : Nat) (S : CS) : Nat × CS := (x1, S)
set_option maxHeartbeats 4000000 in
set_option maxRecDepth 100000 in
theorem c_X3_findLoad (l : Launch) (G : WG) (a : Nat → Nat) (ha : wInj 21 a) (x1 : Nat) (hx1 : x1 < 10) (S : CS) (hc3 : ∃ n, x1 < n ∧ n ≤ 10 ∧ S.1 3 = nI n) (sz : Nat) : gMr l yX3_findLoad wsX3_findLoad ({ frames := 0, cells := 0, slots := 0, locals := 0 }) G 21 a (CW G.2 a) (fun j => a (4 + j)) 10 [.ref (a 0), .int (nI x1)] S sz (f_X3_findLoad x1 S) := by
  unfold gMr
  refine Met.ofW (cc := cX3_findLoad) (maxL := 2) (ret := (some (.object "BackupPower$Load"))) (by decide) rfl ?_
  intro p e s m args below meth c s₁ B hml hv
  obtain ⟨rfl, rfl, hP, hK⟩ := hv
  have hx := B.exec
  have hb := B.bytes
  have hr := B.returns
  have hts := atoms_spec (ws := wsX3_findLoad) B.pre
  have hown : s.vm.findClass RX3 = some m.cls := findClass_of_methodNamed B.named
  have hlocks := B.notSynchronized
  have hS : va_S (wA 21 a s.heap.size) s.heap s.heap [] := va_S.rf
  have hw3 : ∀ w ∈ wsX30, w.before ([.ref (a 0), .int (nI x1)] : List Value).toArray s = true := fun w hw => hts w ((by decide +kernel : ∀ w ∈ wsX30, w ∈ wsX3_findLoad) w hw)
  have hl := lv_entry ([.ref (a 0), .int (nI x1)]) (n := 2) (Nat.le_of_ble_eq_true rfl)
  rw [lg_entry_eq]
  generalize (lg_sl ([.ref (a 0), .int (nI x1)] : List Value) ++ List.replicate (2 - (lg_sl ([.ref (a 0), .int (nI x1)] : List Value)).length) Slot.unset).toArray = ls at hl ⊢
  have hl : lv_has ls 2 [(0, .ref (a 0)), (1, .int (nI x1))] := hl
  generalize hF : f_X3_findLoad x1 S = F
  have h : f_X3_findLoad x1 S = F := hF
  clear hF
  show W p l e ({ frames := 0, cells := 0, slots := 0, locals := 0 } : Room) s m ([.ref (a 0), .int (nI x1)] : List Value).toArray below meth c s.heap [] 0 0 (gQr below G (CW G.2 a) 21 a (fun j => a (4 + j)) 10 F ([.ref (a 0), .int (nI x1)] : List Value).toArray s) (F0 m 0 ls [])
  rewrite [f_X3_findLoad] at h
  refine lv_iload_n hx hb dX3_findLoad_0 rfl (lv_at hl 1 rfl) ?_
  refine lv_if_lt (tgt := 12) hx hb dX3_findLoad_1 (by decide) (fun c1 => ?_) (fun c1 => ?_)
  · exact absurd c1 (fd_0 (by omega))
  · refine lv_iload_n hx hb dX3_findLoad_4 rfl (lv_at hl 1 rfl) ?_
    refine lv_aload_n hx hb dX3_findLoad_5 rfl (lv_at hl 0 rfl) ?_
    refine cgM hx hb hw3 hown hK hP 3 (by decide) (v := .int (S.1 3)) rfl (hts (.fieldLink RX3 57 "BackupPower" "loadCount" "I") (by decide +kernel)) dX3_findLoad_6 ?_
    refine lv_icmp_lt (tgt := 22) hx hb dX3_findLoad_9 (by decide) (fun c9 => ?_) (fun c9 => ?_)
    · refine lv_aload_n hx hb dX3_findLoad_22 rfl (lv_at hl 0 rfl) ?_
      refine cgM hx hb hw3 hown hK hP 0 (by decide) (v := .ref (a 1)) rfl (hts (.fieldLink RX3 11 "BackupPower" "loads" "[LBackupPower$Load;") (by decide +kernel)) dX3_findLoad_23 ?_
      refine lv_iload_n hx hb dX3_findLoad_26 rfl (lv_at hl 1 rfl) ?_
      refine crdL hx hb hK hP (k := x1) (by omega) dX3_findLoad_27 ?_
      exact gRr (wf := CW G.2 a) (S := S) (j := x1) hx hb hr hlocks (by omega) hP hS h dX3_findLoad_28
    · exact absurd (fd_1 (by decide) hc3) c9

def f_X3_findBattery (x1 : Nat) (S : CS) : Nat × CS := (x1, S)
set_option maxHeartbeats 4000000 in
set_option maxRecDepth 100000 in
theorem c_X3_findBattery (l : Launch) (G : WG) (a : Nat → Nat) (ha : wInj 21 a) (x1 : Nat) (hx1 : x1 < 3) (S : CS) (hc4 : ∃ n, x1 < n ∧ n ≤ 3 ∧ S.1 4 = nI n) (sz : Nat) : gMr l yX3_findBattery wsX3_findBattery ({ frames := 0, cells := 0, slots := 0, locals := 0 }) G 21 a (CW G.2 a) (fun j => a (14 + j)) 3 [.ref (a 0), .int (nI x1)] S sz (f_X3_findBattery x1 S) := by
  unfold gMr
  refine Met.ofW (cc := cX3_findBattery) (maxL := 2) (ret := (some (.object "BackupPower$Battery"))) (by decide) rfl ?_
  intro p e s m args below meth c s₁ B hml hv
  obtain ⟨rfl, rfl, hP, hK⟩ := hv
  have hx := B.exec
  have hb := B.bytes
  have hr := B.returns
  have hts := atoms_spec (ws := wsX3_findBattery) B.pre
  have hown : s.vm.findClass RX3 = some m.cls := findClass_of_methodNamed B.named
  have hlocks := B.notSynchronized
  have hS : va_S (wA 21 a s.heap.size) s.heap s.heap [] := va_S.rf
  have hw3 : ∀ w ∈ wsX30, w.before ([.ref (a 0), .int (nI x1)] : List Value).toArray s = true := fun w hw => hts w ((by decide +kernel : ∀ w ∈ wsX30, w ∈ wsX3_findBattery) w hw)
  have hl := lv_entry ([.ref (a 0), .int (nI x1)]) (n := 2) (Nat.le_of_ble_eq_true rfl)
  rw [lg_entry_eq]
  generalize (lg_sl ([.ref (a 0), .int (nI x1)] : List Value) ++ List.replicate (2 - (lg_sl ([.ref (a 0), .int (nI x1)] : List Value)).length) Slot.unset).toArray = ls at hl ⊢
  have hl : lv_has ls 2 [(0, .ref (a 0)), (1, .int (nI x1))] := hl
  generalize hF : f_X3_findBattery x1 S = F
  have h : f_X3_findBattery x1 S = F := hF
  clear hF
  show W p l e ({ frames := 0, cells := 0, slots := 0, locals := 0 } : Room) s m ([.ref (a 0), .int (nI x1)] : List Value).toArray below meth c s.heap [] 0 0 (gQr below G (CW G.2 a) 21 a (fun j => a (14 + j)) 3 F ([.ref (a 0), .int (nI x1)] : List Value).toArray s) (F0 m 0 ls [])
  rewrite [f_X3_findBattery] at h
  refine lv_iload_n hx hb dX3_findBattery_0 rfl (lv_at hl 1 rfl) ?_
  refine lv_if_lt (tgt := 12) hx hb dX3_findBattery_1 (by decide) (fun c1 => ?_) (fun c1 => ?_)
  · exact absurd c1 (fd_0 (by omega))
  · refine lv_iload_n hx hb dX3_findBattery_4 rfl (lv_at hl 1 rfl) ?_
    refine lv_aload_n hx hb dX3_findBattery_5 rfl (lv_at hl 0 rfl) ?_
    refine cgM hx hb hw3 hown hK hP 4 (by decide) (v := .int (S.1 4)) rfl (hts (.fieldLink RX3 71 "BackupPower" "batteryCount" "I") (by decide +kernel)) dX3_findBattery_6 ?_
    refine lv_icmp_lt (tgt := 22) hx hb dX3_findBattery_9 (by decide) (fun c9 => ?_) (fun c9 => ?_)
    · refine lv_aload_n hx hb dX3_findBattery_22 rfl (lv_at hl 0 rfl) ?_
      refine cgM hx hb hw3 hown hK hP 1 (by decide) (v := .ref (a 2)) rfl (hts (.fieldLink RX3 17 "BackupPower" "batteries" "[LBackupPower$Battery;") (by decide +kernel)) dX3_findBattery_23 ?_
      refine lv_iload_n hx hb dX3_findBattery_26 rfl (lv_at hl 1 rfl) ?_
      refine crdB hx hb hK hP (k := x1) (by omega) dX3_findBattery_27 ?_
      exact gRr (wf := CW G.2 a) (S := S) (j := x1) hx hb hr hlocks (by omega) hP hS h dX3_findBattery_28
    · exact absurd (fd_1 (by decide) hc4) c9

def f_X3_findGenerator (x1 : Nat) (S : CS) : Nat × CS := (x1, S)
set_option maxHeartbeats 4000000 in
set_option maxRecDepth 100000 in
theorem c_X3_findGenerator (l : Launch) (G : WG) (a : Nat → Nat) (ha : wInj 21 a) (x1 : Nat) (hx1 : x1 < 3) (S : CS) (hc5 : ∃ n, x1 < n ∧ n ≤ 3 ∧ S.1 5 = nI n) (sz : Nat) : gMr l yX3_findGenerator wsX3_findGenerator ({ frames := 0, cells := 0, slots := 0, locals := 0 }) G 21 a (CW G.2 a) (fun j => a (17 + j)) 3 [.ref (a 0), .int (nI x1)] S sz (f_X3_findGenerator x1 S) := by
  unfold gMr
  refine Met.ofW (cc := cX3_findGenerator) (maxL := 2) (ret := (some (.object "BackupPower$Generator"))) (by decide) rfl ?_
  intro p e s m args below meth c s₁ B hml hv
  obtain ⟨rfl, rfl, hP, hK⟩ := hv
  have hx := B.exec
  have hb := B.bytes
  have hr := B.returns
  have hts := atoms_spec (ws := wsX3_findGenerator) B.pre
  have hown : s.vm.findClass RX3 = some m.cls := findClass_of_methodNamed B.named
  have hlocks := B.notSynchronized
  have hS : va_S (wA 21 a s.heap.size) s.heap s.heap [] := va_S.rf
  have hw3 : ∀ w ∈ wsX30, w.before ([.ref (a 0), .int (nI x1)] : List Value).toArray s = true := fun w hw => hts w ((by decide +kernel : ∀ w ∈ wsX30, w ∈ wsX3_findGenerator) w hw)
  have hl := lv_entry ([.ref (a 0), .int (nI x1)]) (n := 2) (Nat.le_of_ble_eq_true rfl)
  rw [lg_entry_eq]
  generalize (lg_sl ([.ref (a 0), .int (nI x1)] : List Value) ++ List.replicate (2 - (lg_sl ([.ref (a 0), .int (nI x1)] : List Value)).length) Slot.unset).toArray = ls at hl ⊢
  have hl : lv_has ls 2 [(0, .ref (a 0)), (1, .int (nI x1))] := hl
  generalize hF : f_X3_findGenerator x1 S = F
  have h : f_X3_findGenerator x1 S = F := hF
  clear hF
  show W p l e ({ frames := 0, cells := 0, slots := 0, locals := 0 } : Room) s m ([.ref (a 0), .int (nI x1)] : List Value).toArray below meth c s.heap [] 0 0 (gQr below G (CW G.2 a) 21 a (fun j => a (17 + j)) 3 F ([.ref (a 0), .int (nI x1)] : List Value).toArray s) (F0 m 0 ls [])
  rewrite [f_X3_findGenerator] at h
  refine lv_iload_n hx hb dX3_findGenerator_0 rfl (lv_at hl 1 rfl) ?_
  refine lv_if_lt (tgt := 12) hx hb dX3_findGenerator_1 (by decide) (fun c1 => ?_) (fun c1 => ?_)
  · exact absurd c1 (fd_0 (by omega))
  · refine lv_iload_n hx hb dX3_findGenerator_4 rfl (lv_at hl 1 rfl) ?_
    refine lv_aload_n hx hb dX3_findGenerator_5 rfl (lv_at hl 0 rfl) ?_
    refine cgM hx hb hw3 hown hK hP 5 (by decide) (v := .int (S.1 5)) rfl (hts (.fieldLink RX3 79 "BackupPower" "generatorCount" "I") (by decide +kernel)) dX3_findGenerator_6 ?_
    refine lv_icmp_lt (tgt := 22) hx hb dX3_findGenerator_9 (by decide) (fun c9 => ?_) (fun c9 => ?_)
    · refine lv_aload_n hx hb dX3_findGenerator_22 rfl (lv_at hl 0 rfl) ?_
      refine cgM hx hb hw3 hown hK hP 2 (by decide) (v := .ref (a 3)) rfl (hts (.fieldLink RX3 23 "BackupPower" "generators" "[LBackupPower$Generator;") (by decide +kernel)) dX3_findGenerator_23 ?_
      refine lv_iload_n hx hb dX3_findGenerator_26 rfl (lv_at hl 1 rfl) ?_
      refine crdG hx hb hK hP (k := x1) (by omega) dX3_findGenerator_27 ?_
      exact gRr (wf := CW G.2 a) (S := S) (j := x1) hx hb hr hlocks (by omega) hP hS h dX3_findGenerator_28
    · exact absurd (fd_1 (by decide) hc5) c9

def f_X3_stateOf (x1 : Nat) (S : CS) : Int32 × CS := (S.2.1 x1 3, S)
set_option maxHeartbeats 4000000 in
set_option maxRecDepth 100000 in
theorem c_X3_stateOf (l : Launch) (G : WG) (a : Nat → Nat) (ha : wInj 21 a) (x1 : Nat) (hx1 : x1 < 10) (S : CS) (hc3 : ∃ n, x1 < n ∧ n ≤ 10 ∧ S.1 3 = nI n) (sz : Nat) : gMi l yX3_stateOf wsX3_stateOf ({ frames := 1, cells := 0, slots := 0, locals := 21 }) G 21 a (CW G.2 a) [.ref (a 0), .int (nI x1)] S sz (f_X3_stateOf x1 S) := by
  unfold gMi
  refine Met.ofW (cc := cX3_stateOf) (maxL := 2) (ret := (some .int)) (by decide) rfl ?_
  intro p e s m args below meth c s₁ B hml hv
  obtain ⟨rfl, rfl, hP, hK⟩ := hv
  have hx := B.exec
  have hb := B.bytes
  have hr := B.returns
  have hts := atoms_spec (ws := wsX3_stateOf) B.pre
  have hown : s.vm.findClass RX3 = some m.cls := findClass_of_methodNamed B.named
  have hlocks := B.notSynchronized
  have hS : va_S (wA 21 a s.heap.size) s.heap s.heap [] := va_S.rf
  have hw2 : ∀ w ∈ wsX20, w.before ([.ref (a 0), .int (nI x1)] : List Value).toArray s = true := fun w hw => hts w ((by decide +kernel : ∀ w ∈ wsX20, w ∈ wsX3_stateOf) w hw)
  have hl := lv_entry ([.ref (a 0), .int (nI x1)]) (n := 2) (Nat.le_of_ble_eq_true rfl)
  rw [lg_entry_eq]
  generalize (lg_sl ([.ref (a 0), .int (nI x1)] : List Value) ++ List.replicate (2 - (lg_sl ([.ref (a 0), .int (nI x1)] : List Value)).length) Slot.unset).toArray = ls at hl ⊢
  have hl : lv_has ls 2 [(0, .ref (a 0)), (1, .int (nI x1))] := hl
  generalize hF : f_X3_stateOf x1 S = F
  have h : f_X3_stateOf x1 S = F := hF
  clear hF
  show W p l e ({ frames := 1, cells := 0, slots := 0, locals := 21 } : Room) s m ([.ref (a 0), .int (nI x1)] : List Value).toArray below meth c s.heap [] 0 0 (gQi below G (CW G.2 a) 21 a F ([.ref (a 0), .int (nI x1)] : List Value).toArray s) (F0 m 0 ls [])
  rewrite [f_X3_stateOf] at h
  refine lv_aload_n hx hb dX3_stateOf_0 rfl (lv_at hl 0 rfl) ?_
  refine lv_iload_n hx hb dX3_stateOf_1 rfl (lv_at hl 1 rfl) ?_
  refine gcVr0 (wf := CW G.2 a) (N := 21) (ad := a) (fo := fun j => a (4 + j)) (B9 := 10) (As := [.int (nI x1)]) (rest := []) (S := S) (j := x1) (S' := S) ⟨hx, hb, hml, hown, hts⟩ hK hP hS (c_X3_findLoad l G a ha x1 (by omega) S hc3 _) (cwV 1 hts gX3_stateOf_X3_findLoad rfl rfl rfl (by decide +kernel) ⟨Nat.le_of_ble_eq_true rfl, Nat.le_of_ble_eq_true rfl⟩) (crM hK hP) rfl hl.1 rfl (Nat.le_of_ble_eq_true rfl) dX3_stateOf_2 ⟨Nat.le_of_ble_eq_true rfl, Nat.le_of_ble_eq_true rfl⟩ (fun H locs hP hS => ?_)
  refine cgL hx hb hw2 hown hK hP (i := x1) (by omega) 3 (by decide) (hts (.fieldLink RX3 89 "BackupPower$Load" "state" "I") (by decide +kernel)) dX3_stateOf_5 ?_
  exact gRi (wf := CW G.2 a) (S := S) hx hb hr hlocks hP hS h dX3_stateOf_8

def f_X3_energyOf (x1 : Nat) (S : CS) : Int32 × CS := (S.2.1 x1 4, S)
set_option maxHeartbeats 4000000 in
set_option maxRecDepth 100000 in
theorem c_X3_energyOf (l : Launch) (G : WG) (a : Nat → Nat) (ha : wInj 21 a) (x1 : Nat) (hx1 : x1 < 10) (S : CS) (hc3 : ∃ n, x1 < n ∧ n ≤ 10 ∧ S.1 3 = nI n) (sz : Nat) : gMi l yX3_energyOf wsX3_energyOf ({ frames := 1, cells := 0, slots := 0, locals := 21 }) G 21 a (CW G.2 a) [.ref (a 0), .int (nI x1)] S sz (f_X3_energyOf x1 S) := by
  unfold gMi
  refine Met.ofW (cc := cX3_energyOf) (maxL := 2) (ret := (some .int)) (by decide) rfl ?_
  intro p e s m args below meth c s₁ B hml hv
  obtain ⟨rfl, rfl, hP, hK⟩ := hv
  have hx := B.exec
  have hb := B.bytes
  have hr := B.returns
  have hts := atoms_spec (ws := wsX3_energyOf) B.pre
  have hown : s.vm.findClass RX3 = some m.cls := findClass_of_methodNamed B.named
  have hlocks := B.notSynchronized
  have hS : va_S (wA 21 a s.heap.size) s.heap s.heap [] := va_S.rf
  have hw2 : ∀ w ∈ wsX20, w.before ([.ref (a 0), .int (nI x1)] : List Value).toArray s = true := fun w hw => hts w ((by decide +kernel : ∀ w ∈ wsX20, w ∈ wsX3_energyOf) w hw)
  have hl := lv_entry ([.ref (a 0), .int (nI x1)]) (n := 2) (Nat.le_of_ble_eq_true rfl)
  rw [lg_entry_eq]
  generalize (lg_sl ([.ref (a 0), .int (nI x1)] : List Value) ++ List.replicate (2 - (lg_sl ([.ref (a 0), .int (nI x1)] : List Value)).length) Slot.unset).toArray = ls at hl ⊢
  have hl : lv_has ls 2 [(0, .ref (a 0)), (1, .int (nI x1))] := hl
  generalize hF : f_X3_energyOf x1 S = F
  have h : f_X3_energyOf x1 S = F := hF
  clear hF
  show W p l e ({ frames := 1, cells := 0, slots := 0, locals := 21 } : Room) s m ([.ref (a 0), .int (nI x1)] : List Value).toArray below meth c s.heap [] 0 0 (gQi below G (CW G.2 a) 21 a F ([.ref (a 0), .int (nI x1)] : List Value).toArray s) (F0 m 0 ls [])
  rewrite [f_X3_energyOf] at h
  refine lv_aload_n hx hb dX3_energyOf_0 rfl (lv_at hl 0 rfl) ?_
  refine lv_iload_n hx hb dX3_energyOf_1 rfl (lv_at hl 1 rfl) ?_
  refine gcVr0 (wf := CW G.2 a) (N := 21) (ad := a) (fo := fun j => a (4 + j)) (B9 := 10) (As := [.int (nI x1)]) (rest := []) (S := S) (j := x1) (S' := S) ⟨hx, hb, hml, hown, hts⟩ hK hP hS (c_X3_findLoad l G a ha x1 (by omega) S hc3 _) (cwV 1 hts gX3_energyOf_X3_findLoad rfl rfl rfl (by decide +kernel) ⟨Nat.le_of_ble_eq_true rfl, Nat.le_of_ble_eq_true rfl⟩) (crM hK hP) rfl hl.1 rfl (Nat.le_of_ble_eq_true rfl) dX3_energyOf_2 ⟨Nat.le_of_ble_eq_true rfl, Nat.le_of_ble_eq_true rfl⟩ (fun H locs hP hS => ?_)
  refine cgL hx hb hw2 hown hK hP (i := x1) (by omega) 4 (by decide) (hts (.fieldLink RX3 173 "BackupPower$Load" "energy" "I") (by decide +kernel)) dX3_energyOf_5 ?_
  exact gRi (wf := CW G.2 a) (S := S) hx hb hr hlocks hP hS h dX3_energyOf_8

def f_X3_darkMinutes (x1 : Nat) (S : CS) : Int32 × CS := (S.2.1 x1 5, S)
set_option maxHeartbeats 4000000 in
set_option maxRecDepth 100000 in
theorem c_X3_darkMinutes (l : Launch) (G : WG) (a : Nat → Nat) (ha : wInj 21 a) (x1 : Nat) (hx1 : x1 < 10) (S : CS) (hc3 : ∃ n, x1 < n ∧ n ≤ 10 ∧ S.1 3 = nI n) (sz : Nat) : gMi l yX3_darkMinutes wsX3_darkMinutes ({ frames := 1, cells := 0, slots := 0, locals := 21 }) G 21 a (CW G.2 a) [.ref (a 0), .int (nI x1)] S sz (f_X3_darkMinutes x1 S) := by
  unfold gMi
  refine Met.ofW (cc := cX3_darkMinutes) (maxL := 2) (ret := (some .int)) (by decide) rfl ?_
  intro p e s m args below meth c s₁ B hml hv
  obtain ⟨rfl, rfl, hP, hK⟩ := hv
  have hx := B.exec
  have hb := B.bytes
  have hr := B.returns
  have hts := atoms_spec (ws := wsX3_darkMinutes) B.pre
  have hown : s.vm.findClass RX3 = some m.cls := findClass_of_methodNamed B.named
  have hlocks := B.notSynchronized
  have hS : va_S (wA 21 a s.heap.size) s.heap s.heap [] := va_S.rf
  have hw2 : ∀ w ∈ wsX20, w.before ([.ref (a 0), .int (nI x1)] : List Value).toArray s = true := fun w hw => hts w ((by decide +kernel : ∀ w ∈ wsX20, w ∈ wsX3_darkMinutes) w hw)
  have hl := lv_entry ([.ref (a 0), .int (nI x1)]) (n := 2) (Nat.le_of_ble_eq_true rfl)
  rw [lg_entry_eq]
  generalize (lg_sl ([.ref (a 0), .int (nI x1)] : List Value) ++ List.replicate (2 - (lg_sl ([.ref (a 0), .int (nI x1)] : List Value)).length) Slot.unset).toArray = ls at hl ⊢
  have hl : lv_has ls 2 [(0, .ref (a 0)), (1, .int (nI x1))] := hl
  generalize hF : f_X3_darkMinutes x1 S = F
  have h : f_X3_darkMinutes x1 S = F := hF
  clear hF
  show W p l e ({ frames := 1, cells := 0, slots := 0, locals := 21 } : Room) s m ([.ref (a 0), .int (nI x1)] : List Value).toArray below meth c s.heap [] 0 0 (gQi below G (CW G.2 a) 21 a F ([.ref (a 0), .int (nI x1)] : List Value).toArray s) (F0 m 0 ls [])
  rewrite [f_X3_darkMinutes] at h
  refine lv_aload_n hx hb dX3_darkMinutes_0 rfl (lv_at hl 0 rfl) ?_
  refine lv_iload_n hx hb dX3_darkMinutes_1 rfl (lv_at hl 1 rfl) ?_
  refine gcVr0 (wf := CW G.2 a) (N := 21) (ad := a) (fo := fun j => a (4 + j)) (B9 := 10) (As := [.int (nI x1)]) (rest := []) (S := S) (j := x1) (S' := S) ⟨hx, hb, hml, hown, hts⟩ hK hP hS (c_X3_findLoad l G a ha x1 (by omega) S hc3 _) (cwV 1 hts gX3_darkMinutes_X3_findLoad rfl rfl rfl (by decide +kernel) ⟨Nat.le_of_ble_eq_true rfl, Nat.le_of_ble_eq_true rfl⟩) (crM hK hP) rfl hl.1 rfl (Nat.le_of_ble_eq_true rfl) dX3_darkMinutes_2 ⟨Nat.le_of_ble_eq_true rfl, Nat.le_of_ble_eq_true rfl⟩ (fun H locs hP hS => ?_)
  refine cgL hx hb hw2 hown hK hP (i := x1) (by omega) 5 (by decide) (hts (.fieldLink RX3 176 "BackupPower$Load" "minutesShed" "I") (by decide +kernel)) dX3_darkMinutes_5 ?_
  exact gRi (wf := CW G.2 a) (S := S) hx hb hr hlocks hP hS h dX3_darkMinutes_8

def f_X3_chargeOf (x1 : Nat) (S : CS) : Int32 × CS := (S.2.2.1 x1 1, S)
set_option maxHeartbeats 4000000 in
set_option maxRecDepth 100000 in
theorem c_X3_chargeOf (l : Launch) (G : WG) (a : Nat → Nat) (ha : wInj 21 a) (x1 : Nat) (hx1 : x1 < 3) (S : CS) (hc4 : ∃ n, x1 < n ∧ n ≤ 3 ∧ S.1 4 = nI n) (sz : Nat) : gMi l yX3_chargeOf wsX3_chargeOf ({ frames := 1, cells := 0, slots := 0, locals := 21 }) G 21 a (CW G.2 a) [.ref (a 0), .int (nI x1)] S sz (f_X3_chargeOf x1 S) := by
  unfold gMi
  refine Met.ofW (cc := cX3_chargeOf) (maxL := 2) (ret := (some .int)) (by decide) rfl ?_
  intro p e s m args below meth c s₁ B hml hv
  obtain ⟨rfl, rfl, hP, hK⟩ := hv
  have hx := B.exec
  have hb := B.bytes
  have hr := B.returns
  have hts := atoms_spec (ws := wsX3_chargeOf) B.pre
  have hown : s.vm.findClass RX3 = some m.cls := findClass_of_methodNamed B.named
  have hlocks := B.notSynchronized
  have hS : va_S (wA 21 a s.heap.size) s.heap s.heap [] := va_S.rf
  have hw0 : ∀ w ∈ wsX00, w.before ([.ref (a 0), .int (nI x1)] : List Value).toArray s = true := fun w hw => hts w ((by decide +kernel : ∀ w ∈ wsX00, w ∈ wsX3_chargeOf) w hw)
  have hl := lv_entry ([.ref (a 0), .int (nI x1)]) (n := 2) (Nat.le_of_ble_eq_true rfl)
  rw [lg_entry_eq]
  generalize (lg_sl ([.ref (a 0), .int (nI x1)] : List Value) ++ List.replicate (2 - (lg_sl ([.ref (a 0), .int (nI x1)] : List Value)).length) Slot.unset).toArray = ls at hl ⊢
  have hl : lv_has ls 2 [(0, .ref (a 0)), (1, .int (nI x1))] := hl
  generalize hF : f_X3_chargeOf x1 S = F
  have h : f_X3_chargeOf x1 S = F := hF
  clear hF
  show W p l e ({ frames := 1, cells := 0, slots := 0, locals := 21 } : Room) s m ([.ref (a 0), .int (nI x1)] : List Value).toArray below meth c s.heap [] 0 0 (gQi below G (CW G.2 a) 21 a F ([.ref (a 0), .int (nI x1)] : List Value).toArray s) (F0 m 0 ls [])
  rewrite [f_X3_chargeOf] at h
  refine lv_aload_n hx hb dX3_chargeOf_0 rfl (lv_at hl 0 rfl) ?_
  refine lv_iload_n hx hb dX3_chargeOf_1 rfl (lv_at hl 1 rfl) ?_
  refine gcVr0 (wf := CW G.2 a) (N := 21) (ad := a) (fo := fun j => a (14 + j)) (B9 := 3) (As := [.int (nI x1)]) (rest := []) (S := S) (j := x1) (S' := S) ⟨hx, hb, hml, hown, hts⟩ hK hP hS (c_X3_findBattery l G a ha x1 (by omega) S hc4 _) (cwV 1 hts gX3_chargeOf_X3_findBattery rfl rfl rfl (by decide +kernel) ⟨Nat.le_of_ble_eq_true rfl, Nat.le_of_ble_eq_true rfl⟩) (crM hK hP) rfl hl.1 rfl (Nat.le_of_ble_eq_true rfl) dX3_chargeOf_2 ⟨Nat.le_of_ble_eq_true rfl, Nat.le_of_ble_eq_true rfl⟩ (fun H locs hP hS => ?_)
  refine cgB hx hb hw0 hown hK hP (i := x1) (by omega) 1 (by decide) (hts (.fieldLink RX3 153 "BackupPower$Battery" "charge" "I") (by decide +kernel)) dX3_chargeOf_5 ?_
  exact gRi (wf := CW G.2 a) (S := S) hx hb hr hlocks hP hS h dX3_chargeOf_8

def f_X3_capacityOf (x1 : Nat) (S : CS) : Int32 × CS := (S.2.2.1 x1 0, S)
set_option maxHeartbeats 4000000 in
set_option maxRecDepth 100000 in
theorem c_X3_capacityOf (l : Launch) (G : WG) (a : Nat → Nat) (ha : wInj 21 a) (x1 : Nat) (hx1 : x1 < 3) (S : CS) (hc4 : ∃ n, x1 < n ∧ n ≤ 3 ∧ S.1 4 = nI n) (sz : Nat) : gMi l yX3_capacityOf wsX3_capacityOf ({ frames := 1, cells := 0, slots := 0, locals := 21 }) G 21 a (CW G.2 a) [.ref (a 0), .int (nI x1)] S sz (f_X3_capacityOf x1 S) := by
  unfold gMi
  refine Met.ofW (cc := cX3_capacityOf) (maxL := 2) (ret := (some .int)) (by decide) rfl ?_
  intro p e s m args below meth c s₁ B hml hv
  obtain ⟨rfl, rfl, hP, hK⟩ := hv
  have hx := B.exec
  have hb := B.bytes
  have hr := B.returns
  have hts := atoms_spec (ws := wsX3_capacityOf) B.pre
  have hown : s.vm.findClass RX3 = some m.cls := findClass_of_methodNamed B.named
  have hlocks := B.notSynchronized
  have hS : va_S (wA 21 a s.heap.size) s.heap s.heap [] := va_S.rf
  have hw0 : ∀ w ∈ wsX00, w.before ([.ref (a 0), .int (nI x1)] : List Value).toArray s = true := fun w hw => hts w ((by decide +kernel : ∀ w ∈ wsX00, w ∈ wsX3_capacityOf) w hw)
  have hl := lv_entry ([.ref (a 0), .int (nI x1)]) (n := 2) (Nat.le_of_ble_eq_true rfl)
  rw [lg_entry_eq]
  generalize (lg_sl ([.ref (a 0), .int (nI x1)] : List Value) ++ List.replicate (2 - (lg_sl ([.ref (a 0), .int (nI x1)] : List Value)).length) Slot.unset).toArray = ls at hl ⊢
  have hl : lv_has ls 2 [(0, .ref (a 0)), (1, .int (nI x1))] := hl
  generalize hF : f_X3_capacityOf x1 S = F
  have h : f_X3_capacityOf x1 S = F := hF
  clear hF
  show W p l e ({ frames := 1, cells := 0, slots := 0, locals := 21 } : Room) s m ([.ref (a 0), .int (nI x1)] : List Value).toArray below meth c s.heap [] 0 0 (gQi below G (CW G.2 a) 21 a F ([.ref (a 0), .int (nI x1)] : List Value).toArray s) (F0 m 0 ls [])
  rewrite [f_X3_capacityOf] at h
  refine lv_aload_n hx hb dX3_capacityOf_0 rfl (lv_at hl 0 rfl) ?_
  refine lv_iload_n hx hb dX3_capacityOf_1 rfl (lv_at hl 1 rfl) ?_
  refine gcVr0 (wf := CW G.2 a) (N := 21) (ad := a) (fo := fun j => a (14 + j)) (B9 := 3) (As := [.int (nI x1)]) (rest := []) (S := S) (j := x1) (S' := S) ⟨hx, hb, hml, hown, hts⟩ hK hP hS (c_X3_findBattery l G a ha x1 (by omega) S hc4 _) (cwV 1 hts gX3_capacityOf_X3_findBattery rfl rfl rfl (by decide +kernel) ⟨Nat.le_of_ble_eq_true rfl, Nat.le_of_ble_eq_true rfl⟩) (crM hK hP) rfl hl.1 rfl (Nat.le_of_ble_eq_true rfl) dX3_capacityOf_2 ⟨Nat.le_of_ble_eq_true rfl, Nat.le_of_ble_eq_true rfl⟩ (fun H locs hP hS => ?_)
  refine cgB hx hb hw0 hown hK hP (i := x1) (by omega) 0 (by decide) (hts (.fieldLink RX3 156 "BackupPower$Battery" "capacity" "I") (by decide +kernel)) dX3_capacityOf_5 ?_
  exact gRi (wf := CW G.2 a) (S := S) hx hb hr hlocks hP hS h dX3_capacityOf_8

def f_X3_switchLoad_b30 (x1 : Nat) (x2 : Int32) (S30 : CS) : Int32 × CS := (S30.2.1 x1 3, S30)
def f_X3_switchLoad (x1 : Nat) (x2 : Int32) (S : CS) : Int32 × CS := (if x2 = 0 then (f_X3_switchLoad_b30 x1 x2 (cuL S x1 3 0)) else (if (S.2.1 x1 3) = 0 then (f_X3_switchLoad_b30 x1 x2 (cuL S x1 3 2)) else (f_X3_switchLoad_b30 x1 x2 S)))
set_option maxHeartbeats 4000000 in
set_option maxRecDepth 100000 in
theorem c_X3_switchLoad (l : Launch) (G : WG) (a : Nat → Nat) (ha : wInj 21 a) (x1 : Nat) (hx1 : x1 < 10) (x2 : Int32) (hbx2 : isB x2) (S : CS) (hc3 : ∃ n, x1 < n ∧ n ≤ 10 ∧ S.1 3 = nI n) (sz : Nat) : gMi l yX3_switchLoad wsX3_switchLoad ({ frames := 1, cells := 0, slots := 0, locals := 21 }) G 21 a (CW G.2 a) [.ref (a 0), .int (nI x1), .int x2] S sz (f_X3_switchLoad x1 x2 S) := by
  unfold gMi
  refine Met.ofW (cc := cX3_switchLoad) (maxL := 4) (ret := (some .int)) (by decide) rfl ?_
  intro p e s m args below meth c s₁ B hml hv
  obtain ⟨rfl, rfl, hP, hK⟩ := hv
  have hx := B.exec
  have hb := B.bytes
  have hr := B.returns
  have hts := atoms_spec (ws := wsX3_switchLoad) B.pre
  have hown : s.vm.findClass RX3 = some m.cls := findClass_of_methodNamed B.named
  have hlocks := B.notSynchronized
  have hS : va_S (wA 21 a s.heap.size) s.heap s.heap [] := va_S.rf
  have hw2 : ∀ w ∈ wsX20, w.before ([.ref (a 0), .int (nI x1), .int x2] : List Value).toArray s = true := fun w hw => hts w ((by decide +kernel : ∀ w ∈ wsX20, w ∈ wsX3_switchLoad) w hw)
  have hl := lv_entry ([.ref (a 0), .int (nI x1), .int x2]) (n := 4) (Nat.le_of_ble_eq_true rfl)
  rw [lg_entry_eq]
  generalize (lg_sl ([.ref (a 0), .int (nI x1), .int x2] : List Value) ++ List.replicate (4 - (lg_sl ([.ref (a 0), .int (nI x1), .int x2] : List Value)).length) Slot.unset).toArray = ls at hl ⊢
  have hl : lv_has ls 4 [(0, .ref (a 0)), (1, .int (nI x1)), (2, .int x2)] := hl
  generalize hF : f_X3_switchLoad x1 x2 S = F
  have h : f_X3_switchLoad x1 x2 S = F := hF
  clear hF
  show W p l e ({ frames := 1, cells := 0, slots := 0, locals := 21 } : Room) s m ([.ref (a 0), .int (nI x1), .int x2] : List Value).toArray below meth c s.heap [] 0 0 (gQi below G (CW G.2 a) 21 a F ([.ref (a 0), .int (nI x1), .int x2] : List Value).toArray s) (F0 m 0 ls [])
  have J30 : ∀ (S30 : CS), f_X3_switchLoad_b30 x1 x2 S30 = F → ∀ (H : Heap) (locs : List Loc) (ls : Array Slot), wC G a S30 H → va_S (wA 21 a s.heap.size) s.heap H locs → lv_has ls 4 [(3, .ref (a (4 + x1)))] → W p l e ({ frames := 1, cells := 0, slots := 0, locals := 21 } : Room) s m ([.ref (a 0), .int (nI x1), .int x2] : List Value).toArray below meth c H locs 0 0 (gQi below G (CW G.2 a) 21 a F ([.ref (a 0), .int (nI x1), .int x2] : List Value).toArray s) (F0 m 30 ls []) := by
    intro S30 h H locs ls hP hS hl
    rewrite [f_X3_switchLoad_b30] at h
    refine lv_aload_n hx hb dX3_switchLoad_30 rfl (lv_at hl 0 rfl) ?_
    refine cgL hx hb hw2 hown hK hP (i := x1) (by omega) 3 (by decide) (hts (.fieldLink RX3 89 "BackupPower$Load" "state" "I") (by decide +kernel)) dX3_switchLoad_31 ?_
    exact gRi (wf := CW G.2 a) (S := S30) hx hb hr hlocks hP hS h dX3_switchLoad_34
  rewrite [f_X3_switchLoad] at h
  refine lv_aload_n hx hb dX3_switchLoad_0 rfl (lv_at hl 0 rfl) ?_
  refine lv_iload_n hx hb dX3_switchLoad_1 rfl (lv_at hl 1 rfl) ?_
  refine gcVr0 (wf := CW G.2 a) (N := 21) (ad := a) (fo := fun j => a (4 + j)) (B9 := 10) (As := [.int (nI x1)]) (rest := []) (S := S) (j := x1) (S' := S) ⟨hx, hb, hml, hown, hts⟩ hK hP hS (c_X3_findLoad l G a ha x1 (by omega) S hc3 _) (cwV 1 hts gX3_switchLoad_X3_findLoad rfl rfl rfl (by decide +kernel) ⟨Nat.le_of_ble_eq_true rfl, Nat.le_of_ble_eq_true rfl⟩) (crM hK hP) rfl hl.1 rfl (Nat.le_of_ble_eq_true rfl) dX3_switchLoad_2 ⟨Nat.le_of_ble_eq_true rfl, Nat.le_of_ble_eq_true rfl⟩ (fun H locs hP hS => ?_)
  refine lv_astore_n (lv' := [(3, .ref (a (4 + x1))), (0, .ref (a 0)), (1, .int (nI x1)), (2, .int x2)]) hx hb dX3_switchLoad_5 rfl hl (by decide) rfl (fun ls hl => ?_)
  refine lv_iload_n hx hb dX3_switchLoad_6 rfl (lv_at hl 3 rfl) ?_
  refine lv_if_ne (tgt := 18) hx hb dX3_switchLoad_7 (by decide) (fun c7 => ?_) (fun c7 => ?_)
  · rewrite [if_neg c7] at h
    refine lv_aload_n hx hb dX3_switchLoad_18 rfl (lv_at hl 0 rfl) ?_
    refine cgL hx hb hw2 hown hK hP (i := x1) (by omega) 3 (by decide) (hts (.fieldLink RX3 89 "BackupPower$Load" "state" "I") (by decide +kernel)) dX3_switchLoad_19 ?_
    refine lv_if_ne (tgt := 30) hx hb dX3_switchLoad_22 (by decide) (fun c22 => ?_) (fun c22 => ?_)
    · rewrite [if_neg c22] at h
      exact J30 S h _ _ _ hP hS (lv_sub hl [0] rfl)
    · rewrite [if_pos c22] at h
      refine lv_aload_n hx hb dX3_switchLoad_25 rfl (lv_at hl 0 rfl) ?_
      refine lv_iconst (v := 2) hx hb dX3_switchLoad_26 (by decide) ?_
      refine cpL hx hb hw2 hown hK ha hP hS (i := x1) (by omega) 3 (by decide) rfl okI (hts (.fieldLink RX3 89 "BackupPower$Load" "state" "I") (by decide +kernel)) dX3_switchLoad_27 (fun H locs hP hS => ?_)
      exact J30 (cuL S x1 3 2) h _ _ _ hP hS (lv_sub hl [0] rfl)
  · rewrite [if_pos c7] at h
    refine lv_aload_n hx hb dX3_switchLoad_10 rfl (lv_at hl 0 rfl) ?_
    refine lv_iconst (v := 0) hx hb dX3_switchLoad_11 (by decide) ?_
    refine cpL hx hb hw2 hown hK ha hP hS (i := x1) (by omega) 3 (by decide) rfl okI (hts (.fieldLink RX3 89 "BackupPower$Load" "state" "I") (by decide +kernel)) dX3_switchLoad_12 (fun H locs hP hS => ?_)
    refine lv_goto (tgt := 30) hx hb dX3_switchLoad_15 (by decide) ?_
    exact J30 (cuL S x1 3 0) h _ _ _ hP hS (lv_sub hl [0] rfl)

def f_X3_setPower (x1 : Nat) (x2 : Int32) (S : CS) : Int32 × CS := (S.2.1 x1 2, (cuL S x1 2 x2))
set_option maxHeartbeats 4000000 in
set_option maxRecDepth 100000 in
theorem c_X3_setPower (l : Launch) (G : WG) (a : Nat → Nat) (ha : wInj 21 a) (x1 : Nat) (hx1 : x1 < 10) (x2 : Int32) (S : CS) (hc3 : ∃ n, x1 < n ∧ n ≤ 10 ∧ S.1 3 = nI n) (hr_x2 : (1 : Int32).toInt ≤ x2.toInt ∧ x2.toInt ≤ (500 : Int32).toInt) (sz : Nat) : gMi l yX3_setPower wsX3_setPower ({ frames := 1, cells := 0, slots := 0, locals := 22 }) G 21 a (CW G.2 a) [.ref (a 0), .int (nI x1), .int x2] S sz (f_X3_setPower x1 x2 S) := by
  unfold gMi
  refine Met.ofW (cc := cX3_setPower) (maxL := 5) (ret := (some .int)) (by decide) rfl ?_
  intro p e s m args below meth c s₁ B hml hv
  obtain ⟨rfl, rfl, hP, hK⟩ := hv
  have hx := B.exec
  have hb := B.bytes
  have hr := B.returns
  have hts := atoms_spec (ws := wsX3_setPower) B.pre
  have hown : s.vm.findClass RX3 = some m.cls := findClass_of_methodNamed B.named
  have hlocks := B.notSynchronized
  have hS : va_S (wA 21 a s.heap.size) s.heap s.heap [] := va_S.rf
  have hw2 : ∀ w ∈ wsX20, w.before ([.ref (a 0), .int (nI x1), .int x2] : List Value).toArray s = true := fun w hw => hts w ((by decide +kernel : ∀ w ∈ wsX20, w ∈ wsX3_setPower) w hw)
  have hl := lv_entry ([.ref (a 0), .int (nI x1), .int x2]) (n := 5) (Nat.le_of_ble_eq_true rfl)
  rw [lg_entry_eq]
  generalize (lg_sl ([.ref (a 0), .int (nI x1), .int x2] : List Value) ++ List.replicate (5 - (lg_sl ([.ref (a 0), .int (nI x1), .int x2] : List Value)).length) Slot.unset).toArray = ls at hl ⊢
  have hl : lv_has ls 5 [(0, .ref (a 0)), (1, .int (nI x1)), (2, .int x2)] := hl
  generalize hF : f_X3_setPower x1 x2 S = F
  have h : f_X3_setPower x1 x2 S = F := hF
  clear hF
  show W p l e ({ frames := 1, cells := 0, slots := 0, locals := 22 } : Room) s m ([.ref (a 0), .int (nI x1), .int x2] : List Value).toArray below meth c s.heap [] 0 0 (gQi below G (CW G.2 a) 21 a F ([.ref (a 0), .int (nI x1), .int x2] : List Value).toArray s) (F0 m 0 ls [])
  rewrite [f_X3_setPower] at h
  refine lv_aload_n hx hb dX3_setPower_0 rfl (lv_at hl 0 rfl) ?_
  refine lv_iload_n hx hb dX3_setPower_1 rfl (lv_at hl 1 rfl) ?_
  refine gcVr0 (wf := CW G.2 a) (N := 21) (ad := a) (fo := fun j => a (4 + j)) (B9 := 10) (As := [.int (nI x1)]) (rest := []) (S := S) (j := x1) (S' := S) ⟨hx, hb, hml, hown, hts⟩ hK hP hS (c_X3_findLoad l G a ha x1 (by omega) S hc3 _) (cwV 1 hts gX3_setPower_X3_findLoad rfl rfl rfl (by decide +kernel) ⟨Nat.le_of_ble_eq_true rfl, Nat.le_of_ble_eq_true rfl⟩) (crM hK hP) rfl hl.1 rfl (Nat.le_of_ble_eq_true rfl) dX3_setPower_2 ⟨Nat.le_of_ble_eq_true rfl, Nat.le_of_ble_eq_true rfl⟩ (fun H locs hP hS => ?_)
  refine lv_astore_n (lv' := [(3, .ref (a (4 + x1))), (0, .ref (a 0)), (1, .int (nI x1)), (2, .int x2)]) hx hb dX3_setPower_5 rfl hl (by decide) rfl (fun ls hl => ?_)
  refine lv_iload_n hx hb dX3_setPower_6 rfl (lv_at hl 3 rfl) ?_
  refine lv_iconst (v := 1) hx hb dX3_setPower_7 (by decide) ?_
  refine lv_sipush (v := 500) hx hb dX3_setPower_8 (by decide) ?_
  refine gcSz0 (wf := CW G.2 a) (N := 21) (ad := a) (As := [.int x2, .int 1, .int 500]) (rest := []) (S := S) (v := 0) (S' := S) ⟨hx, hb, hml, hown, hts⟩ hK hP hS (q_isO l G a ha x2 1 500 S hr_x2 _) (va_cwS 3 hts gX3_setPower_X3_isOutside rfl rfl rfl (by decide +kernel) ⟨Nat.le_of_ble_eq_true rfl, Nat.le_of_ble_eq_true rfl⟩) rfl hl.1 rfl (Nat.le_of_ble_eq_true rfl) dX3_setPower_11 ⟨Nat.le_of_ble_eq_true rfl, Nat.le_of_ble_eq_true rfl⟩ (fun H locs hbp11 hP hS => ?_)
  refine lv_if_eq (tgt := 27) hx hb dX3_setPower_14 (by decide) (fun c14 => ?_) (fun c14 => ?_)
  · refine lv_aload_n hx hb dX3_setPower_27 rfl (lv_at hl 0 rfl) ?_
    refine cgL hx hb hw2 hown hK hP (i := x1) (by omega) 2 (by decide) (hts (.fieldLink RX3 94 "BackupPower$Load" "power" "I") (by decide +kernel)) dX3_setPower_28 ?_
    refine lv_istore (lv' := [(4, .int (S.2.1 x1 2)), (3, .ref (a (4 + x1))), (0, .ref (a 0)), (1, .int (nI x1)), (2, .int x2)]) hx hb dX3_setPower_31 hl (by decide) rfl (fun ls hl => ?_)
    refine lv_aload_n hx hb dX3_setPower_33 rfl (lv_at hl 1 rfl) ?_
    refine lv_iload_n hx hb dX3_setPower_34 rfl (lv_at hl 4 rfl) ?_
    refine cpL hx hb hw2 hown hK ha hP hS (i := x1) (by omega) 2 (by decide) rfl okI (hts (.fieldLink RX3 94 "BackupPower$Load" "power" "I") (by decide +kernel)) dX3_setPower_35 (fun H locs hP hS => ?_)
    refine lv_iload hx hb dX3_setPower_38 (lv_at hl 0 rfl) ?_
    exact gRi (wf := CW G.2 a) (S := (cuL S x1 2 x2)) hx hb hr hlocks hP hS h dX3_setPower_40
  · exact absurd c14 (by decide)

def f_X3_refuel (x1 : Nat) (x2 : Int32) (S : CS) : Int32 × CS := ((if (S.2.2.2 x1 2) - (S.2.2.2 x1 3) < x2 then (S.2.2.2 x1 2) - (S.2.2.2 x1 3) else x2), (cuG S x1 3 ((S.2.2.2 x1 3) + (if (S.2.2.2 x1 2) - (S.2.2.2 x1 3) < x2 then (S.2.2.2 x1 2) - (S.2.2.2 x1 3) else x2))))
set_option maxHeartbeats 4000000 in
set_option maxRecDepth 100000 in
theorem c_X3_refuel (l : Launch) (G : WG) (a : Nat → Nat) (ha : wInj 21 a) (x1 : Nat) (hx1 : x1 < 3) (x2 : Int32) (S : CS) (hc5 : ∃ n, x1 < n ∧ n ≤ 3 ∧ S.1 5 = nI n) (hr_x2 : (1 : Int32).toInt ≤ x2.toInt ∧ x2.toInt ≤ (1000 : Int32).toInt) (sz : Nat) : gMi l yX3_refuel wsX3_refuel ({ frames := 1, cells := 0, slots := 0, locals := 22 }) G 21 a (CW G.2 a) [.ref (a 0), .int (nI x1), .int x2] S sz (f_X3_refuel x1 x2 S) := by
  unfold gMi
  refine Met.ofW (cc := cX3_refuel) (maxL := 5) (ret := (some .int)) (by decide) rfl ?_
  intro p e s m args below meth c s₁ B hml hv
  obtain ⟨rfl, rfl, hP, hK⟩ := hv
  have hx := B.exec
  have hb := B.bytes
  have hr := B.returns
  have hts := atoms_spec (ws := wsX3_refuel) B.pre
  have hown : s.vm.findClass RX3 = some m.cls := findClass_of_methodNamed B.named
  have hlocks := B.notSynchronized
  have hS : va_S (wA 21 a s.heap.size) s.heap s.heap [] := va_S.rf
  have hw1 : ∀ w ∈ wsX10, w.before ([.ref (a 0), .int (nI x1), .int x2] : List Value).toArray s = true := fun w hw => hts w ((by decide +kernel : ∀ w ∈ wsX10, w ∈ wsX3_refuel) w hw)
  have hl := lv_entry ([.ref (a 0), .int (nI x1), .int x2]) (n := 5) (Nat.le_of_ble_eq_true rfl)
  rw [lg_entry_eq]
  generalize (lg_sl ([.ref (a 0), .int (nI x1), .int x2] : List Value) ++ List.replicate (5 - (lg_sl ([.ref (a 0), .int (nI x1), .int x2] : List Value)).length) Slot.unset).toArray = ls at hl ⊢
  have hl : lv_has ls 5 [(0, .ref (a 0)), (1, .int (nI x1)), (2, .int x2)] := hl
  generalize hF : f_X3_refuel x1 x2 S = F
  have h : f_X3_refuel x1 x2 S = F := hF
  clear hF
  show W p l e ({ frames := 1, cells := 0, slots := 0, locals := 22 } : Room) s m ([.ref (a 0), .int (nI x1), .int x2] : List Value).toArray below meth c s.heap [] 0 0 (gQi below G (CW G.2 a) 21 a F ([.ref (a 0), .int (nI x1), .int x2] : List Value).toArray s) (F0 m 0 ls [])
  rewrite [f_X3_refuel] at h
  refine lv_aload_n hx hb dX3_refuel_0 rfl (lv_at hl 0 rfl) ?_
  refine lv_iload_n hx hb dX3_refuel_1 rfl (lv_at hl 1 rfl) ?_
  refine gcVr0 (wf := CW G.2 a) (N := 21) (ad := a) (fo := fun j => a (17 + j)) (B9 := 3) (As := [.int (nI x1)]) (rest := []) (S := S) (j := x1) (S' := S) ⟨hx, hb, hml, hown, hts⟩ hK hP hS (c_X3_findGenerator l G a ha x1 (by omega) S hc5 _) (cwV 1 hts gX3_refuel_X3_findGenerator rfl rfl rfl (by decide +kernel) ⟨Nat.le_of_ble_eq_true rfl, Nat.le_of_ble_eq_true rfl⟩) (crM hK hP) rfl hl.1 rfl (Nat.le_of_ble_eq_true rfl) dX3_refuel_2 ⟨Nat.le_of_ble_eq_true rfl, Nat.le_of_ble_eq_true rfl⟩ (fun H locs hP hS => ?_)
  refine lv_astore_n (lv' := [(3, .ref (a (17 + x1))), (0, .ref (a 0)), (1, .int (nI x1)), (2, .int x2)]) hx hb dX3_refuel_5 rfl hl (by decide) rfl (fun ls hl => ?_)
  refine lv_iload_n hx hb dX3_refuel_6 rfl (lv_at hl 3 rfl) ?_
  refine lv_iconst (v := 1) hx hb dX3_refuel_7 (by decide) ?_
  refine lv_sipush (v := 1000) hx hb dX3_refuel_8 (by decide) ?_
  refine gcSz0 (wf := CW G.2 a) (N := 21) (ad := a) (As := [.int x2, .int 1, .int 1000]) (rest := []) (S := S) (v := 0) (S' := S) ⟨hx, hb, hml, hown, hts⟩ hK hP hS (q_isO l G a ha x2 1 1000 S hr_x2 _) (va_cwS 3 hts gX3_refuel_X3_isOutside rfl rfl rfl (by decide +kernel) ⟨Nat.le_of_ble_eq_true rfl, Nat.le_of_ble_eq_true rfl⟩) rfl hl.1 rfl (Nat.le_of_ble_eq_true rfl) dX3_refuel_11 ⟨Nat.le_of_ble_eq_true rfl, Nat.le_of_ble_eq_true rfl⟩ (fun H locs hbp11 hP hS => ?_)
  refine lv_if_eq (tgt := 27) hx hb dX3_refuel_14 (by decide) (fun c14 => ?_) (fun c14 => ?_)
  · refine lv_iload_n hx hb dX3_refuel_27 rfl (lv_at hl 3 rfl) ?_
    refine lv_aload_n hx hb dX3_refuel_28 rfl (lv_at hl 0 rfl) ?_
    refine cgG hx hb hw1 hown hK hP (i := x1) (by omega) 2 (by decide) (hts (.fieldLink RX3 103 "BackupPower$Generator" "tank" "I") (by decide +kernel)) dX3_refuel_29 ?_
    refine lv_aload_n hx hb dX3_refuel_32 rfl (lv_at hl 0 rfl) ?_
    refine cgG hx hb hw1 hown hK hP (i := x1) (by omega) 3 (by decide) (hts (.fieldLink RX3 106 "BackupPower$Generator" "fuel" "I") (by decide +kernel)) dX3_refuel_33 ?_
    refine lv_isub hx hb dX3_refuel_36 ?_
    refine va_mmin hx hb (hml.trans hl.1.symm) hown (hts (.methodLink RX3 109 Lib.Math.min.name) (by decide +kernel)) (hts (.static Lib.Math.min.name) (by decide +kernel)) (hts (.initialized "java/lang/Math") (by decide +kernel)) (hts (.code Lib.Math.min.name Lib.Math.min.code 2 (some .int)) (by decide +kernel)) (Nat.le_of_ble_eq_true rfl) (Nat.le_of_ble_eq_true rfl) (Nat.le_of_ble_eq_true rfl) (Nat.le_of_ble_eq_true rfl) dX3_refuel_37 ?_
    refine lv_istore (lv' := [(4, .int (if (S.2.2.2 x1 2) - (S.2.2.2 x1 3) < x2 then (S.2.2.2 x1 2) - (S.2.2.2 x1 3) else x2)), (3, .ref (a (17 + x1))), (0, .ref (a 0)), (1, .int (nI x1)), (2, .int x2)]) hx hb dX3_refuel_40 hl (by decide) rfl (fun ls hl => ?_)
    refine lv_aload_n hx hb dX3_refuel_42 rfl (lv_at hl 1 rfl) ?_
    refine lv_dup hx hb dX3_refuel_43 rfl ?_
    refine cgG hx hb hw1 hown hK hP (i := x1) (by omega) 3 (by decide) (hts (.fieldLink RX3 106 "BackupPower$Generator" "fuel" "I") (by decide +kernel)) dX3_refuel_44 ?_
    refine lv_iload hx hb dX3_refuel_47 (lv_at hl 0 rfl) ?_
    refine lv_iadd hx hb dX3_refuel_49 ?_
    refine cpG hx hb hw1 hown hK ha hP hS (i := x1) (by omega) 3 (by decide) rfl okI (hts (.fieldLink RX3 106 "BackupPower$Generator" "fuel" "I") (by decide +kernel)) dX3_refuel_50 (fun H locs hP hS => ?_)
    refine lv_iload hx hb dX3_refuel_53 (lv_at hl 0 rfl) ?_
    exact gRi (wf := CW G.2 a) (S := (cuG S x1 3 ((S.2.2.2 x1 3) + (if (S.2.2.2 x1 2) - (S.2.2.2 x1 3) < x2 then (S.2.2.2 x1 2) - (S.2.2.2 x1 3) else x2)))) hx hb hr hlocks hP hS h dX3_refuel_55
  · exact absurd c14 (by decide)

def f_X3_setFailures (x1 : Nat) (x2 : Int32) (S : CS) : Int32 × CS := (S.2.2.2 x1 9, (cuG S x1 9 x2))
set_option maxHeartbeats 4000000 in
set_option maxRecDepth 100000 in
theorem c_X3_setFailures (l : Launch) (G : WG) (a : Nat → Nat) (ha : wInj 21 a) (x1 : Nat) (hx1 : x1 < 3) (x2 : Int32) (S : CS) (hc5 : ∃ n, x1 < n ∧ n ≤ 3 ∧ S.1 5 = nI n) (hr_x2 : (0 : Int32).toInt ≤ x2.toInt ∧ x2.toInt ≤ (5 : Int32).toInt) (sz : Nat) : gMi l yX3_setFailures wsX3_setFailures ({ frames := 1, cells := 0, slots := 0, locals := 22 }) G 21 a (CW G.2 a) [.ref (a 0), .int (nI x1), .int x2] S sz (f_X3_setFailures x1 x2 S) := by
  unfold gMi
  refine Met.ofW (cc := cX3_setFailures) (maxL := 5) (ret := (some .int)) (by decide) rfl ?_
  intro p e s m args below meth c s₁ B hml hv
  obtain ⟨rfl, rfl, hP, hK⟩ := hv
  have hx := B.exec
  have hb := B.bytes
  have hr := B.returns
  have hts := atoms_spec (ws := wsX3_setFailures) B.pre
  have hown : s.vm.findClass RX3 = some m.cls := findClass_of_methodNamed B.named
  have hlocks := B.notSynchronized
  have hS : va_S (wA 21 a s.heap.size) s.heap s.heap [] := va_S.rf
  have hw1 : ∀ w ∈ wsX10, w.before ([.ref (a 0), .int (nI x1), .int x2] : List Value).toArray s = true := fun w hw => hts w ((by decide +kernel : ∀ w ∈ wsX10, w ∈ wsX3_setFailures) w hw)
  have hl := lv_entry ([.ref (a 0), .int (nI x1), .int x2]) (n := 5) (Nat.le_of_ble_eq_true rfl)
  rw [lg_entry_eq]
  generalize (lg_sl ([.ref (a 0), .int (nI x1), .int x2] : List Value) ++ List.replicate (5 - (lg_sl ([.ref (a 0), .int (nI x1), .int x2] : List Value)).length) Slot.unset).toArray = ls at hl ⊢
  have hl : lv_has ls 5 [(0, .ref (a 0)), (1, .int (nI x1)), (2, .int x2)] := hl
  generalize hF : f_X3_setFailures x1 x2 S = F
  have h : f_X3_setFailures x1 x2 S = F := hF
  clear hF
  show W p l e ({ frames := 1, cells := 0, slots := 0, locals := 22 } : Room) s m ([.ref (a 0), .int (nI x1), .int x2] : List Value).toArray below meth c s.heap [] 0 0 (gQi below G (CW G.2 a) 21 a F ([.ref (a 0), .int (nI x1), .int x2] : List Value).toArray s) (F0 m 0 ls [])
  rewrite [f_X3_setFailures] at h
  refine lv_aload_n hx hb dX3_setFailures_0 rfl (lv_at hl 0 rfl) ?_
  refine lv_iload_n hx hb dX3_setFailures_1 rfl (lv_at hl 1 rfl) ?_
  refine gcVr0 (wf := CW G.2 a) (N := 21) (ad := a) (fo := fun j => a (17 + j)) (B9 := 3) (As := [.int (nI x1)]) (rest := []) (S := S) (j := x1) (S' := S) ⟨hx, hb, hml, hown, hts⟩ hK hP hS (c_X3_findGenerator l G a ha x1 (by omega) S hc5 _) (cwV 1 hts gX3_setFailures_X3_findGenerator rfl rfl rfl (by decide +kernel) ⟨Nat.le_of_ble_eq_true rfl, Nat.le_of_ble_eq_true rfl⟩) (crM hK hP) rfl hl.1 rfl (Nat.le_of_ble_eq_true rfl) dX3_setFailures_2 ⟨Nat.le_of_ble_eq_true rfl, Nat.le_of_ble_eq_true rfl⟩ (fun H locs hP hS => ?_)
  refine lv_astore_n (lv' := [(3, .ref (a (17 + x1))), (0, .ref (a 0)), (1, .int (nI x1)), (2, .int x2)]) hx hb dX3_setFailures_5 rfl hl (by decide) rfl (fun ls hl => ?_)
  refine lv_iload_n hx hb dX3_setFailures_6 rfl (lv_at hl 3 rfl) ?_
  refine lv_iconst (v := 0) hx hb dX3_setFailures_7 (by decide) ?_
  refine lv_iconst (v := 5) hx hb dX3_setFailures_8 (by decide) ?_
  refine gcSz0 (wf := CW G.2 a) (N := 21) (ad := a) (As := [.int x2, .int 0, .int 5]) (rest := []) (S := S) (v := 0) (S' := S) ⟨hx, hb, hml, hown, hts⟩ hK hP hS (q_isO l G a ha x2 0 5 S hr_x2 _) (va_cwS 3 hts gX3_setFailures_X3_isOutside rfl rfl rfl (by decide +kernel) ⟨Nat.le_of_ble_eq_true rfl, Nat.le_of_ble_eq_true rfl⟩) rfl hl.1 rfl (Nat.le_of_ble_eq_true rfl) dX3_setFailures_9 ⟨Nat.le_of_ble_eq_true rfl, Nat.le_of_ble_eq_true rfl⟩ (fun H locs hbp9 hP hS => ?_)
  refine lv_if_eq (tgt := 25) hx hb dX3_setFailures_12 (by decide) (fun c12 => ?_) (fun c12 => ?_)
  · refine lv_aload_n hx hb dX3_setFailures_25 rfl (lv_at hl 0 rfl) ?_
    refine cgG hx hb hw1 hown hK hP (i := x1) (by omega) 9 (by decide) (hts (.fieldLink RX3 117 "BackupPower$Generator" "failuresToCome" "I") (by decide +kernel)) dX3_setFailures_26 ?_
    refine lv_istore (lv' := [(4, .int (S.2.2.2 x1 9)), (3, .ref (a (17 + x1))), (0, .ref (a 0)), (1, .int (nI x1)), (2, .int x2)]) hx hb dX3_setFailures_29 hl (by decide) rfl (fun ls hl => ?_)
    refine lv_aload_n hx hb dX3_setFailures_31 rfl (lv_at hl 1 rfl) ?_
    refine lv_iload_n hx hb dX3_setFailures_32 rfl (lv_at hl 4 rfl) ?_
    refine cpG hx hb hw1 hown hK ha hP hS (i := x1) (by omega) 9 (by decide) rfl okI (hts (.fieldLink RX3 117 "BackupPower$Generator" "failuresToCome" "I") (by decide +kernel)) dX3_setFailures_33 (fun H locs hP hS => ?_)
    refine lv_iload hx hb dX3_setFailures_36 (lv_at hl 0 rfl) ?_
    exact gRi (wf := CW G.2 a) (S := (cuG S x1 9 x2)) hx hb hr hlocks hP hS h dX3_setFailures_38
  · exact absurd c12 (by decide)

def f_X3_setTests (x1 : Nat) (x2 : Int32) (x3 : Int32) (S : CS) : Int32 × CS := (S.2.2.2 x1 11, (cuG (cuG S x1 11 x2) x1 12 x3))
set_option maxHeartbeats 4000000 in
set_option maxRecDepth 100000 in
theorem c_X3_setTests (l : Launch) (G : WG) (a : Nat → Nat) (ha : wInj 21 a) (x1 : Nat) (hx1 : x1 < 3) (x2 : Int32) (x3 : Int32) (S : CS) (hc5 : ∃ n, x1 < n ∧ n ≤ 3 ∧ S.1 5 = nI n) (hr_x2 : (0 : Int32).toInt ≤ x2.toInt ∧ x2.toInt ≤ (10000 : Int32).toInt) (hr_x3 : (1 : Int32).toInt ≤ x3.toInt ∧ x3.toInt ≤ (60 : Int32).toInt) (sz : Nat) : gMi l yX3_setTests wsX3_setTests ({ frames := 1, cells := 0, slots := 0, locals := 22 }) G 21 a (CW G.2 a) [.ref (a 0), .int (nI x1), .int x2, .int x3] S sz (f_X3_setTests x1 x2 x3 S) := by
  unfold gMi
  refine Met.ofW (cc := cX3_setTests) (maxL := 6) (ret := (some .int)) (by decide) rfl ?_
  intro p e s m args below meth c s₁ B hml hv
  obtain ⟨rfl, rfl, hP, hK⟩ := hv
  have hx := B.exec
  have hb := B.bytes
  have hr := B.returns
  have hts := atoms_spec (ws := wsX3_setTests) B.pre
  have hown : s.vm.findClass RX3 = some m.cls := findClass_of_methodNamed B.named
  have hlocks := B.notSynchronized
  have hS : va_S (wA 21 a s.heap.size) s.heap s.heap [] := va_S.rf
  have hw1 : ∀ w ∈ wsX10, w.before ([.ref (a 0), .int (nI x1), .int x2, .int x3] : List Value).toArray s = true := fun w hw => hts w ((by decide +kernel : ∀ w ∈ wsX10, w ∈ wsX3_setTests) w hw)
  have hl := lv_entry ([.ref (a 0), .int (nI x1), .int x2, .int x3]) (n := 6) (Nat.le_of_ble_eq_true rfl)
  rw [lg_entry_eq]
  generalize (lg_sl ([.ref (a 0), .int (nI x1), .int x2, .int x3] : List Value) ++ List.replicate (6 - (lg_sl ([.ref (a 0), .int (nI x1), .int x2, .int x3] : List Value)).length) Slot.unset).toArray = ls at hl ⊢
  have hl : lv_has ls 6 [(0, .ref (a 0)), (1, .int (nI x1)), (2, .int x2), (3, .int x3)] := hl
  generalize hF : f_X3_setTests x1 x2 x3 S = F
  have h : f_X3_setTests x1 x2 x3 S = F := hF
  clear hF
  show W p l e ({ frames := 1, cells := 0, slots := 0, locals := 22 } : Room) s m ([.ref (a 0), .int (nI x1), .int x2, .int x3] : List Value).toArray below meth c s.heap [] 0 0 (gQi below G (CW G.2 a) 21 a F ([.ref (a 0), .int (nI x1), .int x2, .int x3] : List Value).toArray s) (F0 m 0 ls [])
  rewrite [f_X3_setTests] at h
  refine lv_aload_n hx hb dX3_setTests_0 rfl (lv_at hl 0 rfl) ?_
  refine lv_iload_n hx hb dX3_setTests_1 rfl (lv_at hl 1 rfl) ?_
  refine gcVr0 (wf := CW G.2 a) (N := 21) (ad := a) (fo := fun j => a (17 + j)) (B9 := 3) (As := [.int (nI x1)]) (rest := []) (S := S) (j := x1) (S' := S) ⟨hx, hb, hml, hown, hts⟩ hK hP hS (c_X3_findGenerator l G a ha x1 (by omega) S hc5 _) (cwV 1 hts gX3_setTests_X3_findGenerator rfl rfl rfl (by decide +kernel) ⟨Nat.le_of_ble_eq_true rfl, Nat.le_of_ble_eq_true rfl⟩) (crM hK hP) rfl hl.1 rfl (Nat.le_of_ble_eq_true rfl) dX3_setTests_2 ⟨Nat.le_of_ble_eq_true rfl, Nat.le_of_ble_eq_true rfl⟩ (fun H locs hP hS => ?_)
  refine lv_astore (lv' := [(4, .ref (a (17 + x1))), (0, .ref (a 0)), (1, .int (nI x1)), (2, .int x2), (3, .int x3)]) hx hb dX3_setTests_5 hl (by decide) rfl (fun ls hl => ?_)
  refine lv_iload_n hx hb dX3_setTests_7 rfl (lv_at hl 3 rfl) ?_
  refine lv_iconst (v := 0) hx hb dX3_setTests_8 (by decide) ?_
  refine lv_sipush (v := 10000) hx hb dX3_setTests_9 (by decide) ?_
  refine gcSz0 (wf := CW G.2 a) (N := 21) (ad := a) (As := [.int x2, .int 0, .int 10000]) (rest := []) (S := S) (v := 0) (S' := S) ⟨hx, hb, hml, hown, hts⟩ hK hP hS (q_isO l G a ha x2 0 10000 S hr_x2 _) (va_cwS 3 hts gX3_setTests_X3_isOutside rfl rfl rfl (by decide +kernel) ⟨Nat.le_of_ble_eq_true rfl, Nat.le_of_ble_eq_true rfl⟩) rfl hl.1 rfl (Nat.le_of_ble_eq_true rfl) dX3_setTests_12 ⟨Nat.le_of_ble_eq_true rfl, Nat.le_of_ble_eq_true rfl⟩ (fun H locs hbp12 hP hS => ?_)
  refine lv_if_ne (tgt := 28) hx hb dX3_setTests_15 (by decide) (fun c15 => ?_) (fun c15 => ?_)
  · exact absurd c15 (by decide)
  · refine lv_iload_n hx hb dX3_setTests_18 rfl (lv_at hl 4 rfl) ?_
    refine lv_iconst (v := 1) hx hb dX3_setTests_19 (by decide) ?_
    refine lv_bipush (v := 60) hx hb dX3_setTests_20 (by decide) ?_
    refine gcSz0 (wf := CW G.2 a) (N := 21) (ad := a) (As := [.int x3, .int 1, .int 60]) (rest := []) (S := S) (v := 0) (S' := S) ⟨hx, hb, hml, hown, hts⟩ hK hP hS (q_isO l G a ha x3 1 60 S hr_x3 _) (va_cwS 3 hts gX3_setTests_X3_isOutside rfl rfl rfl (by decide +kernel) ⟨Nat.le_of_ble_eq_true rfl, Nat.le_of_ble_eq_true rfl⟩) rfl hl.1 rfl (Nat.le_of_ble_eq_true rfl) dX3_setTests_22 ⟨Nat.le_of_ble_eq_true rfl, Nat.le_of_ble_eq_true rfl⟩ (fun H locs hbp22 hP hS => ?_)
    refine lv_if_eq (tgt := 38) hx hb dX3_setTests_25 (by decide) (fun c25 => ?_) (fun c25 => ?_)
    · refine lv_aload hx hb dX3_setTests_38 (lv_at hl 0 rfl) ?_
      refine cgG hx hb hw1 hown hK hP (i := x1) (by omega) 11 (by decide) (hts (.fieldLink RX3 122 "BackupPower$Generator" "testPeriod" "I") (by decide +kernel)) dX3_setTests_40 ?_
      refine lv_istore (lv' := [(5, .int (S.2.2.2 x1 11)), (4, .ref (a (17 + x1))), (0, .ref (a 0)), (1, .int (nI x1)), (2, .int x2), (3, .int x3)]) hx hb dX3_setTests_43 hl (by decide) rfl (fun ls hl => ?_)
      refine lv_aload hx hb dX3_setTests_45 (lv_at hl 1 rfl) ?_
      refine lv_iload_n hx hb dX3_setTests_47 rfl (lv_at hl 4 rfl) ?_
      refine cpG hx hb hw1 hown hK ha hP hS (i := x1) (by omega) 11 (by decide) rfl okI (hts (.fieldLink RX3 122 "BackupPower$Generator" "testPeriod" "I") (by decide +kernel)) dX3_setTests_48 (fun H locs hP hS => ?_)
      refine lv_aload hx hb dX3_setTests_51 (lv_at hl 1 rfl) ?_
      refine lv_iload_n hx hb dX3_setTests_53 rfl (lv_at hl 5 rfl) ?_
      refine cpG hx hb hw1 hown hK ha hP hS (i := x1) (by omega) 12 (by decide) rfl okI (hts (.fieldLink RX3 125 "BackupPower$Generator" "testMinutes" "I") (by decide +kernel)) dX3_setTests_54 (fun H locs hP hS => ?_)
      refine lv_iload hx hb dX3_setTests_57 (lv_at hl 0 rfl) ?_
      exact gRi (wf := CW G.2 a) (S := (cuG (cuG S x1 11 x2) x1 12 x3)) hx hb hr hlocks hP hS h dX3_setTests_59
    · exact absurd c25 (by decide)

def f_X3_setTimes (x1 : Int32) (x2 : Int32) (S : CS) : Int32 × CS := (S.1 9, (cuM (cuM S 9 x1) 10 x2))
set_option maxHeartbeats 4000000 in
set_option maxRecDepth 100000 in
theorem c_X3_setTimes (l : Launch) (G : WG) (a : Nat → Nat) (ha : wInj 21 a) (x1 : Int32) (x2 : Int32) (S : CS) (hr_x1 : (0 : Int32).toInt ≤ x1.toInt ∧ x1.toInt ≤ (30 : Int32).toInt) (hr_x2 : (1 : Int32).toInt ≤ x2.toInt ∧ x2.toInt ≤ (10 : Int32).toInt) (sz : Nat) : gMi l yX3_setTimes wsX3_setTimes ({ frames := 1, cells := 0, slots := 0, locals := 22 }) G 21 a (CW G.2 a) [.ref (a 0), .int x1, .int x2] S sz (f_X3_setTimes x1 x2 S) := by
  unfold gMi
  refine Met.ofW (cc := cX3_setTimes) (maxL := 4) (ret := (some .int)) (by decide) rfl ?_
  intro p e s m args below meth c s₁ B hml hv
  obtain ⟨rfl, rfl, hP, hK⟩ := hv
  have hx := B.exec
  have hb := B.bytes
  have hr := B.returns
  have hts := atoms_spec (ws := wsX3_setTimes) B.pre
  have hown : s.vm.findClass RX3 = some m.cls := findClass_of_methodNamed B.named
  have hlocks := B.notSynchronized
  have hS : va_S (wA 21 a s.heap.size) s.heap s.heap [] := va_S.rf
  have hw3 : ∀ w ∈ wsX30, w.before ([.ref (a 0), .int x1, .int x2] : List Value).toArray s = true := fun w hw => hts w ((by decide +kernel : ∀ w ∈ wsX30, w ∈ wsX3_setTimes) w hw)
  have hl := lv_entry ([.ref (a 0), .int x1, .int x2]) (n := 4) (Nat.le_of_ble_eq_true rfl)
  rw [lg_entry_eq]
  generalize (lg_sl ([.ref (a 0), .int x1, .int x2] : List Value) ++ List.replicate (4 - (lg_sl ([.ref (a 0), .int x1, .int x2] : List Value)).length) Slot.unset).toArray = ls at hl ⊢
  have hl : lv_has ls 4 [(0, .ref (a 0)), (1, .int x1), (2, .int x2)] := hl
  generalize hF : f_X3_setTimes x1 x2 S = F
  have h : f_X3_setTimes x1 x2 S = F := hF
  clear hF
  show W p l e ({ frames := 1, cells := 0, slots := 0, locals := 22 } : Room) s m ([.ref (a 0), .int x1, .int x2] : List Value).toArray below meth c s.heap [] 0 0 (gQi below G (CW G.2 a) 21 a F ([.ref (a 0), .int x1, .int x2] : List Value).toArray s) (F0 m 0 ls [])
  rewrite [f_X3_setTimes] at h
  refine lv_iload_n hx hb dX3_setTimes_0 rfl (lv_at hl 1 rfl) ?_
  refine lv_iconst (v := 0) hx hb dX3_setTimes_1 (by decide) ?_
  refine lv_bipush (v := 30) hx hb dX3_setTimes_2 (by decide) ?_
  refine gcSz0 (wf := CW G.2 a) (N := 21) (ad := a) (As := [.int x1, .int 0, .int 30]) (rest := []) (S := S) (v := 0) (S' := S) ⟨hx, hb, hml, hown, hts⟩ hK hP hS (q_isO l G a ha x1 0 30 S hr_x1 _) (va_cwS 3 hts gX3_setTimes_X3_isOutside rfl rfl rfl (by decide +kernel) ⟨Nat.le_of_ble_eq_true rfl, Nat.le_of_ble_eq_true rfl⟩) rfl hl.1 rfl (Nat.le_of_ble_eq_true rfl) dX3_setTimes_4 ⟨Nat.le_of_ble_eq_true rfl, Nat.le_of_ble_eq_true rfl⟩ (fun H locs hbp4 hP hS => ?_)
  refine lv_if_ne (tgt := 20) hx hb dX3_setTimes_7 (by decide) (fun c7 => ?_) (fun c7 => ?_)
  · exact absurd c7 (by decide)
  · refine lv_iload_n hx hb dX3_setTimes_10 rfl (lv_at hl 2 rfl) ?_
    refine lv_iconst (v := 1) hx hb dX3_setTimes_11 (by decide) ?_
    refine lv_bipush (v := 10) hx hb dX3_setTimes_12 (by decide) ?_
    refine gcSz0 (wf := CW G.2 a) (N := 21) (ad := a) (As := [.int x2, .int 1, .int 10]) (rest := []) (S := S) (v := 0) (S' := S) ⟨hx, hb, hml, hown, hts⟩ hK hP hS (q_isO l G a ha x2 1 10 S hr_x2 _) (va_cwS 3 hts gX3_setTimes_X3_isOutside rfl rfl rfl (by decide +kernel) ⟨Nat.le_of_ble_eq_true rfl, Nat.le_of_ble_eq_true rfl⟩) rfl hl.1 rfl (Nat.le_of_ble_eq_true rfl) dX3_setTimes_14 ⟨Nat.le_of_ble_eq_true rfl, Nat.le_of_ble_eq_true rfl⟩ (fun H locs hbp14 hP hS => ?_)
    refine lv_if_eq (tgt := 30) hx hb dX3_setTimes_17 (by decide) (fun c17 => ?_) (fun c17 => ?_)
    · refine lv_aload_n hx hb dX3_setTimes_30 rfl (lv_at hl 0 rfl) ?_
      refine cgM hx hb hw3 hown hK hP 9 (by decide) (v := .int (S.1 9)) rfl (hts (.fieldLink RX3 31 "BackupPower" "startTime" "I") (by decide +kernel)) dX3_setTimes_31 ?_
      refine lv_istore_n (lv' := [(3, .int (S.1 9)), (0, .ref (a 0)), (1, .int x1), (2, .int x2)]) hx hb dX3_setTimes_34 rfl hl (by decide) rfl (fun ls hl => ?_)
      refine lv_aload_n hx hb dX3_setTimes_35 rfl (lv_at hl 1 rfl) ?_
      refine lv_iload_n hx hb dX3_setTimes_36 rfl (lv_at hl 2 rfl) ?_
      refine cpM hx hb hw3 hown hK ha hP hS 9 (by decide) (by decide) rfl okI (hts (.fieldLink RX3 31 "BackupPower" "startTime" "I") (by decide +kernel)) dX3_setTimes_37 (fun H locs hP hS => ?_)
      refine lv_aload_n hx hb dX3_setTimes_40 rfl (lv_at hl 1 rfl) ?_
      refine lv_iload_n hx hb dX3_setTimes_41 rfl (lv_at hl 3 rfl) ?_
      refine cpM hx hb hw3 hown hK ha hP hS 10 (by decide) (by decide) rfl okI (hts (.fieldLink RX3 35 "BackupPower" "staggerTime" "I") (by decide +kernel)) dX3_setTimes_42 (fun H locs hP hS => ?_)
      refine lv_iload_n hx hb dX3_setTimes_45 rfl (lv_at hl 0 rfl) ?_
      exact gRi (wf := CW G.2 a) (S := (cuM (cuM S 9 x1) 10 x2)) hx hb hr hlocks hP hS h dX3_setTimes_46
    · exact absurd c17 (by decide)

def f_X3_addLoad_c75 (x1 : Int32) (x2 : Int32) (p75 : CS) : Int32 × CS := (((cuM p75 3 ((p75.1 3) + 1)).1 3) - 1, (cuM p75 3 ((p75.1 3) + 1)))
def f_X3_addLoad_b75 (x1 : Int32) (x2 : Int32) (S75 : CS) (s0_75 : Nat) (s3_75 : Int32) : Int32 × CS := (f_X3_addLoad_c75 x1 x2 (f_X2_install s0_75 x1 x2 s3_75 S75))
def f_X3_addLoad (x1 : Int32) (x2 : Int32) (S : CS) : Int32 × CS := (if (S.1 6) = 0 then (f_X3_addLoad_b75 x1 x2 S ((S.1 3).toNatClampNeg) 2) else (f_X3_addLoad_b75 x1 x2 S ((S.1 3).toNatClampNeg) 1))
set_option maxHeartbeats 4000000 in
set_option maxRecDepth 100000 in
theorem c_X3_addLoad (l : Launch) (G : WG) (a : Nat → Nat) (ha : wInj 21 a) (x1 : Int32) (x2 : Int32) (S : CS) (hc3 : ∃ n, n < 10 ∧ S.1 3 = nI n) (hr_x1 : (1 : Int32).toInt ≤ x1.toInt ∧ x1.toInt ≤ (5 : Int32).toInt) (hr_x2 : (1 : Int32).toInt ≤ x2.toInt ∧ x2.toInt ≤ (500 : Int32).toInt) (sz : Nat) : gMi l yX3_addLoad wsX3_addLoad ({ frames := 1, cells := 0, slots := 0, locals := 23 }) G 21 a (CW G.2 a) [.ref (a 0), .int x1, .int x2] S sz (f_X3_addLoad x1 x2 S) := by
  unfold gMi
  refine Met.ofW (cc := cX3_addLoad) (maxL := 3) (ret := (some .int)) (by decide) rfl ?_
  intro p e s m args below meth c s₁ B hml hv
  obtain ⟨rfl, rfl, hP, hK⟩ := hv
  have hx := B.exec
  have hb := B.bytes
  have hr := B.returns
  have hts := atoms_spec (ws := wsX3_addLoad) B.pre
  have hown : s.vm.findClass RX3 = some m.cls := findClass_of_methodNamed B.named
  have hlocks := B.notSynchronized
  have hS : va_S (wA 21 a s.heap.size) s.heap s.heap [] := va_S.rf
  have hw3 : ∀ w ∈ wsX30, w.before ([.ref (a 0), .int x1, .int x2] : List Value).toArray s = true := fun w hw => hts w ((by decide +kernel : ∀ w ∈ wsX30, w ∈ wsX3_addLoad) w hw)
  have hl := lv_entry ([.ref (a 0), .int x1, .int x2]) (n := 3) (Nat.le_of_ble_eq_true rfl)
  rw [lg_entry_eq]
  generalize (lg_sl ([.ref (a 0), .int x1, .int x2] : List Value) ++ List.replicate (3 - (lg_sl ([.ref (a 0), .int x1, .int x2] : List Value)).length) Slot.unset).toArray = ls at hl ⊢
  have hl : lv_has ls 3 [(0, .ref (a 0)), (1, .int x1), (2, .int x2)] := hl
  generalize hF : f_X3_addLoad x1 x2 S = F
  have h : f_X3_addLoad x1 x2 S = F := hF
  clear hF
  show W p l e ({ frames := 1, cells := 0, slots := 0, locals := 23 } : Room) s m ([.ref (a 0), .int x1, .int x2] : List Value).toArray below meth c s.heap [] 0 0 (gQi below G (CW G.2 a) 21 a F ([.ref (a 0), .int x1, .int x2] : List Value).toArray s) (F0 m 0 ls [])
  have J75 : ∀ (S75 : CS) (s0_75 : Nat) (s3_75 : Int32), (s0_75 < 10) → f_X3_addLoad_b75 x1 x2 S75 s0_75 s3_75 = F → ∀ (H : Heap) (locs : List Loc) (ls : Array Slot), wC G a S75 H → va_S (wA 21 a s.heap.size) s.heap H locs → lv_has ls 3 [(0, .ref (a 0))] → W p l e ({ frames := 1, cells := 0, slots := 0, locals := 23 } : Room) s m ([.ref (a 0), .int x1, .int x2] : List Value).toArray below meth c H locs 0 0 (gQi below G (CW G.2 a) 21 a F ([.ref (a 0), .int x1, .int x2] : List Value).toArray s) (F0 m 75 ls [.int s3_75, .int x2, .int x1, .ref (a (4 + s0_75))]) := by
    intro S75 s0_75 s3_75 hs0_75 h H locs ls hP hS hl
    rewrite [f_X3_addLoad_b75] at h
    refine gcVv (wf := CW G.2 a) (N := 21) (ad := a) (As := [.int x1, .int x2, .int s3_75]) (rest := []) (S := S75) ⟨hx, hb, hml, hown, hts⟩ hK hP hS (c_X2_install l G a ha s0_75 (by omega) x1 x2 s3_75 S75 _) (cwV 3 hts gX3_addLoad_X2_install rfl rfl rfl (by decide +kernel) ⟨Nat.le_of_ble_eq_true rfl, Nat.le_of_ble_eq_true rfl⟩) (crL hK hP (i := s0_75) (by omega)) rfl hl.1 rfl (Nat.le_of_ble_eq_true rfl) dX3_addLoad_75 ⟨Nat.le_of_ble_eq_true rfl, Nat.le_of_ble_eq_true rfl⟩ (fun p75 H locs ep75 hP hS => ?_)
    rewrite [← ep75] at h
    rewrite [f_X3_addLoad_c75] at h
    refine lv_aload_n hx hb dX3_addLoad_78 rfl (lv_at hl 0 rfl) ?_
    refine lv_dup hx hb dX3_addLoad_79 rfl ?_
    refine cgM hx hb hw3 hown hK hP 3 (by decide) (v := .int (p75.1 3)) rfl (hts (.fieldLink RX3 57 "BackupPower" "loadCount" "I") (by decide +kernel)) dX3_addLoad_80 ?_
    refine lv_iconst (v := 1) hx hb dX3_addLoad_83 (by decide) ?_
    refine lv_iadd hx hb dX3_addLoad_84 ?_
    refine cpM hx hb hw3 hown hK ha hP hS 3 (by decide) (by decide) rfl okI (hts (.fieldLink RX3 57 "BackupPower" "loadCount" "I") (by decide +kernel)) dX3_addLoad_85 (fun H locs hP hS => ?_)
    refine lv_aload_n hx hb dX3_addLoad_88 rfl (lv_at hl 0 rfl) ?_
    refine cgM hx hb hw3 hown hK hP 3 (by decide) (v := .int ((cuM p75 3 ((p75.1 3) + 1)).1 3)) rfl (hts (.fieldLink RX3 57 "BackupPower" "loadCount" "I") (by decide +kernel)) dX3_addLoad_89 ?_
    refine lv_iconst (v := 1) hx hb dX3_addLoad_92 (by decide) ?_
    refine lv_isub hx hb dX3_addLoad_93 ?_
    exact gRi (wf := CW G.2 a) (S := (cuM p75 3 ((p75.1 3) + 1))) hx hb hr hlocks hP hS h dX3_addLoad_94
  rewrite [f_X3_addLoad] at h
  refine lv_iload_n hx hb dX3_addLoad_0 rfl (lv_at hl 1 rfl) ?_
  refine lv_iconst (v := 1) hx hb dX3_addLoad_1 (by decide) ?_
  refine lv_iconst (v := 5) hx hb dX3_addLoad_2 (by decide) ?_
  refine gcSz0 (wf := CW G.2 a) (N := 21) (ad := a) (As := [.int x1, .int 1, .int 5]) (rest := []) (S := S) (v := 0) (S' := S) ⟨hx, hb, hml, hown, hts⟩ hK hP hS (q_isO l G a ha x1 1 5 S hr_x1 _) (va_cwS 3 hts gX3_addLoad_X3_isOutside rfl rfl rfl (by decide +kernel) ⟨Nat.le_of_ble_eq_true rfl, Nat.le_of_ble_eq_true rfl⟩) rfl hl.1 rfl (Nat.le_of_ble_eq_true rfl) dX3_addLoad_3 ⟨Nat.le_of_ble_eq_true rfl, Nat.le_of_ble_eq_true rfl⟩ (fun H locs hbp3 hP hS => ?_)
  refine lv_if_ne (tgt := 20) hx hb dX3_addLoad_6 (by decide) (fun c6 => ?_) (fun c6 => ?_)
  · exact absurd c6 (by decide)
  · refine lv_iload_n hx hb dX3_addLoad_9 rfl (lv_at hl 2 rfl) ?_
    refine lv_iconst (v := 1) hx hb dX3_addLoad_10 (by decide) ?_
    refine lv_sipush (v := 500) hx hb dX3_addLoad_11 (by decide) ?_
    refine gcSz0 (wf := CW G.2 a) (N := 21) (ad := a) (As := [.int x2, .int 1, .int 500]) (rest := []) (S := S) (v := 0) (S' := S) ⟨hx, hb, hml, hown, hts⟩ hK hP hS (q_isO l G a ha x2 1 500 S hr_x2 _) (va_cwS 3 hts gX3_addLoad_X3_isOutside rfl rfl rfl (by decide +kernel) ⟨Nat.le_of_ble_eq_true rfl, Nat.le_of_ble_eq_true rfl⟩) rfl hl.1 rfl (Nat.le_of_ble_eq_true rfl) dX3_addLoad_14 ⟨Nat.le_of_ble_eq_true rfl, Nat.le_of_ble_eq_true rfl⟩ (fun H locs hbp14 hP hS => ?_)
    refine lv_if_eq (tgt := 30) hx hb dX3_addLoad_17 (by decide) (fun c17 => ?_) (fun c17 => ?_)
    · refine lv_aload_n hx hb dX3_addLoad_30 rfl (lv_at hl 0 rfl) ?_
      refine cgM hx hb hw3 hown hK hP 3 (by decide) (v := .int (S.1 3)) rfl (hts (.fieldLink RX3 57 "BackupPower" "loadCount" "I") (by decide +kernel)) dX3_addLoad_31 ?_
      refine lv_aload_n hx hb dX3_addLoad_34 rfl (lv_at hl 0 rfl) ?_
      refine cgM hx hb hw3 hown hK hP 0 (by decide) (v := .ref (a 1)) rfl (hts (.fieldLink RX3 11 "BackupPower" "loads" "[LBackupPower$Load;") (by decide +kernel)) dX3_addLoad_35 ?_
      refine clL hx hb hK hP dX3_addLoad_38 ?_
      refine lv_icmp_lt (tgt := 52) hx hb dX3_addLoad_39 (by decide) (fun c39 => ?_) (fun c39 => ?_)
      · refine lv_aload_n hx hb dX3_addLoad_52 rfl (lv_at hl 0 rfl) ?_
        refine cgM hx hb hw3 hown hK hP 0 (by decide) (v := .ref (a 1)) rfl (hts (.fieldLink RX3 11 "BackupPower" "loads" "[LBackupPower$Load;") (by decide +kernel)) dX3_addLoad_53 ?_
        refine lv_aload_n hx hb dX3_addLoad_56 rfl (lv_at hl 0 rfl) ?_
        refine cgM hx hb hw3 hown hK hP 3 (by decide) (v := .int (S.1 3)) rfl (hts (.fieldLink RX3 57 "BackupPower" "loadCount" "I") (by decide +kernel)) dX3_addLoad_57 ?_
        have hix60 : vp_in (S.1 3) 10 := (ad_2 (by decide) hc3)
        have hjx60 : (S.1 3).toNatClampNeg < 10 := vp_lt hix60
        refine crdLI hx hb hK hP hix60 dX3_addLoad_60 ?_
        refine lv_iload_n hx hb dX3_addLoad_61 rfl (lv_at hl 1 rfl) ?_
        refine lv_iload_n hx hb dX3_addLoad_62 rfl (lv_at hl 2 rfl) ?_
        refine lv_aload_n hx hb dX3_addLoad_63 rfl (lv_at hl 0 rfl) ?_
        refine cgM hx hb hw3 hown hK hP 6 (by decide) (v := .int (S.1 6)) rfl (hts (.fieldLink RX3 27 "BackupPower" "mainsUp" "Z") (by decide +kernel)) dX3_addLoad_64 ?_
        refine lv_if_eq (tgt := 74) hx hb dX3_addLoad_67 (by decide) (fun c67 => ?_) (fun c67 => ?_)
        · rewrite [if_pos c67] at h
          refine lv_iconst (v := 2) hx hb dX3_addLoad_74 (by decide) ?_
          exact J75 S ((S.1 3).toNatClampNeg) 2 (by omega) h _ _ _ hP hS (lv_sub hl [0] rfl)
        · rewrite [if_neg c67] at h
          refine lv_iconst (v := 1) hx hb dX3_addLoad_70 (by decide) ?_
          refine lv_goto (tgt := 75) hx hb dX3_addLoad_71 (by decide) ?_
          exact J75 S ((S.1 3).toNatClampNeg) 1 (by omega) h _ _ _ hP hS (lv_sub hl [0] rfl)
      · exact absurd (ad_1 (by decide) hc3) c39
    · exact absurd c17 (by decide)

def f_X3_addBattery_c77 (x1 : Int32) (x2 : Int32) (x3 : Int32) (p77 : CS) : Int32 × CS := (((cuM p77 4 ((p77.1 4) + 1)).1 4) - 1, (cuM p77 4 ((p77.1 4) + 1)))
def f_X3_addBattery (x1 : Int32) (x2 : Int32) (x3 : Int32) (S : CS) : Int32 × CS := (f_X3_addBattery_c77 x1 x2 x3 (f_X0_install ((S.1 4).toNatClampNeg) x1 x2 x3 S))
set_option maxHeartbeats 4000000 in
set_option maxRecDepth 100000 in
theorem c_X3_addBattery (l : Launch) (G : WG) (a : Nat → Nat) (ha : wInj 21 a) (x1 : Int32) (x2 : Int32) (x3 : Int32) (S : CS) (hc4 : ∃ n, n < 3 ∧ S.1 4 = nI n) (hr_x1 : (1 : Int32).toInt ≤ x1.toInt ∧ x1.toInt ≤ (20000 : Int32).toInt) (hr_x2 : (1 : Int32).toInt ≤ x2.toInt ∧ x2.toInt ≤ (500 : Int32).toInt) (hr_x3 : (1 : Int32).toInt ≤ x3.toInt ∧ x3.toInt ≤ (500 : Int32).toInt) (sz : Nat) : gMi l yX3_addBattery wsX3_addBattery ({ frames := 1, cells := 0, slots := 0, locals := 23 }) G 21 a (CW G.2 a) [.ref (a 0), .int x1, .int x2, .int x3] S sz (f_X3_addBattery x1 x2 x3 S) := by
  unfold gMi
  refine Met.ofW (cc := cX3_addBattery) (maxL := 4) (ret := (some .int)) (by decide) rfl ?_
  intro p e s m args below meth c s₁ B hml hv
  obtain ⟨rfl, rfl, hP, hK⟩ := hv
  have hx := B.exec
  have hb := B.bytes
  have hr := B.returns
  have hts := atoms_spec (ws := wsX3_addBattery) B.pre
  have hown : s.vm.findClass RX3 = some m.cls := findClass_of_methodNamed B.named
  have hlocks := B.notSynchronized
  have hS : va_S (wA 21 a s.heap.size) s.heap s.heap [] := va_S.rf
  have hw3 : ∀ w ∈ wsX30, w.before ([.ref (a 0), .int x1, .int x2, .int x3] : List Value).toArray s = true := fun w hw => hts w ((by decide +kernel : ∀ w ∈ wsX30, w ∈ wsX3_addBattery) w hw)
  have hl := lv_entry ([.ref (a 0), .int x1, .int x2, .int x3]) (n := 4) (Nat.le_of_ble_eq_true rfl)
  rw [lg_entry_eq]
  generalize (lg_sl ([.ref (a 0), .int x1, .int x2, .int x3] : List Value) ++ List.replicate (4 - (lg_sl ([.ref (a 0), .int x1, .int x2, .int x3] : List Value)).length) Slot.unset).toArray = ls at hl ⊢
  have hl : lv_has ls 4 [(0, .ref (a 0)), (1, .int x1), (2, .int x2), (3, .int x3)] := hl
  generalize hF : f_X3_addBattery x1 x2 x3 S = F
  have h : f_X3_addBattery x1 x2 x3 S = F := hF
  clear hF
  show W p l e ({ frames := 1, cells := 0, slots := 0, locals := 23 } : Room) s m ([.ref (a 0), .int x1, .int x2, .int x3] : List Value).toArray below meth c s.heap [] 0 0 (gQi below G (CW G.2 a) 21 a F ([.ref (a 0), .int x1, .int x2, .int x3] : List Value).toArray s) (F0 m 0 ls [])
  rewrite [f_X3_addBattery] at h
  refine lv_iload_n hx hb dX3_addBattery_0 rfl (lv_at hl 1 rfl) ?_
  refine lv_iconst (v := 1) hx hb dX3_addBattery_1 (by decide) ?_
  refine lv_sipush (v := 20000) hx hb dX3_addBattery_2 (by decide) ?_
  refine gcSz0 (wf := CW G.2 a) (N := 21) (ad := a) (As := [.int x1, .int 1, .int 20000]) (rest := []) (S := S) (v := 0) (S' := S) ⟨hx, hb, hml, hown, hts⟩ hK hP hS (q_isO l G a ha x1 1 20000 S hr_x1 _) (va_cwS 3 hts gX3_addBattery_X3_isOutside rfl rfl rfl (by decide +kernel) ⟨Nat.le_of_ble_eq_true rfl, Nat.le_of_ble_eq_true rfl⟩) rfl hl.1 rfl (Nat.le_of_ble_eq_true rfl) dX3_addBattery_5 ⟨Nat.le_of_ble_eq_true rfl, Nat.le_of_ble_eq_true rfl⟩ (fun H locs hbp5 hP hS => ?_)
  refine lv_if_ne (tgt := 33) hx hb dX3_addBattery_8 (by decide) (fun c8 => ?_) (fun c8 => ?_)
  · exact absurd c8 (by decide)
  · refine lv_iload_n hx hb dX3_addBattery_11 rfl (lv_at hl 2 rfl) ?_
    refine lv_iconst (v := 1) hx hb dX3_addBattery_12 (by decide) ?_
    refine lv_sipush (v := 500) hx hb dX3_addBattery_13 (by decide) ?_
    refine gcSz0 (wf := CW G.2 a) (N := 21) (ad := a) (As := [.int x2, .int 1, .int 500]) (rest := []) (S := S) (v := 0) (S' := S) ⟨hx, hb, hml, hown, hts⟩ hK hP hS (q_isO l G a ha x2 1 500 S hr_x2 _) (va_cwS 3 hts gX3_addBattery_X3_isOutside rfl rfl rfl (by decide +kernel) ⟨Nat.le_of_ble_eq_true rfl, Nat.le_of_ble_eq_true rfl⟩) rfl hl.1 rfl (Nat.le_of_ble_eq_true rfl) dX3_addBattery_16 ⟨Nat.le_of_ble_eq_true rfl, Nat.le_of_ble_eq_true rfl⟩ (fun H locs hbp16 hP hS => ?_)
    refine lv_if_ne (tgt := 33) hx hb dX3_addBattery_19 (by decide) (fun c19 => ?_) (fun c19 => ?_)
    · exact absurd c19 (by decide)
    · refine lv_iload_n hx hb dX3_addBattery_22 rfl (lv_at hl 3 rfl) ?_
      refine lv_iconst (v := 1) hx hb dX3_addBattery_23 (by decide) ?_
      refine lv_sipush (v := 500) hx hb dX3_addBattery_24 (by decide) ?_
      refine gcSz0 (wf := CW G.2 a) (N := 21) (ad := a) (As := [.int x3, .int 1, .int 500]) (rest := []) (S := S) (v := 0) (S' := S) ⟨hx, hb, hml, hown, hts⟩ hK hP hS (q_isO l G a ha x3 1 500 S hr_x3 _) (va_cwS 3 hts gX3_addBattery_X3_isOutside rfl rfl rfl (by decide +kernel) ⟨Nat.le_of_ble_eq_true rfl, Nat.le_of_ble_eq_true rfl⟩) rfl hl.1 rfl (Nat.le_of_ble_eq_true rfl) dX3_addBattery_27 ⟨Nat.le_of_ble_eq_true rfl, Nat.le_of_ble_eq_true rfl⟩ (fun H locs hbp27 hP hS => ?_)
      refine lv_if_eq (tgt := 43) hx hb dX3_addBattery_30 (by decide) (fun c30 => ?_) (fun c30 => ?_)
      · refine lv_aload_n hx hb dX3_addBattery_43 rfl (lv_at hl 0 rfl) ?_
        refine cgM hx hb hw3 hown hK hP 4 (by decide) (v := .int (S.1 4)) rfl (hts (.fieldLink RX3 71 "BackupPower" "batteryCount" "I") (by decide +kernel)) dX3_addBattery_44 ?_
        refine lv_aload_n hx hb dX3_addBattery_47 rfl (lv_at hl 0 rfl) ?_
        refine cgM hx hb hw3 hown hK hP 1 (by decide) (v := .ref (a 2)) rfl (hts (.fieldLink RX3 17 "BackupPower" "batteries" "[LBackupPower$Battery;") (by decide +kernel)) dX3_addBattery_48 ?_
        refine clB hx hb hK hP dX3_addBattery_51 ?_
        refine lv_icmp_lt (tgt := 65) hx hb dX3_addBattery_52 (by decide) (fun c52 => ?_) (fun c52 => ?_)
        · refine lv_aload_n hx hb dX3_addBattery_65 rfl (lv_at hl 0 rfl) ?_
          refine cgM hx hb hw3 hown hK hP 1 (by decide) (v := .ref (a 2)) rfl (hts (.fieldLink RX3 17 "BackupPower" "batteries" "[LBackupPower$Battery;") (by decide +kernel)) dX3_addBattery_66 ?_
          refine lv_aload_n hx hb dX3_addBattery_69 rfl (lv_at hl 0 rfl) ?_
          refine cgM hx hb hw3 hown hK hP 4 (by decide) (v := .int (S.1 4)) rfl (hts (.fieldLink RX3 71 "BackupPower" "batteryCount" "I") (by decide +kernel)) dX3_addBattery_70 ?_
          have hix73 : vp_in (S.1 4) 3 := (ad_2 (by decide) hc4)
          have hjx73 : (S.1 4).toNatClampNeg < 3 := vp_lt hix73
          refine crdBI hx hb hK hP hix73 dX3_addBattery_73 ?_
          refine lv_iload_n hx hb dX3_addBattery_74 rfl (lv_at hl 1 rfl) ?_
          refine lv_iload_n hx hb dX3_addBattery_75 rfl (lv_at hl 2 rfl) ?_
          refine lv_iload_n hx hb dX3_addBattery_76 rfl (lv_at hl 3 rfl) ?_
          refine gcVv (wf := CW G.2 a) (N := 21) (ad := a) (As := [.int x1, .int x2, .int x3]) (rest := []) (S := S) ⟨hx, hb, hml, hown, hts⟩ hK hP hS (c_X0_install l G a ha ((S.1 4).toNatClampNeg) (by omega) x1 x2 x3 S _) (cwV 3 hts gX3_addBattery_X0_install rfl rfl rfl (by decide +kernel) ⟨Nat.le_of_ble_eq_true rfl, Nat.le_of_ble_eq_true rfl⟩) (crB hK hP (i := (S.1 4).toNatClampNeg) (by omega)) rfl hl.1 rfl (Nat.le_of_ble_eq_true rfl) dX3_addBattery_77 ⟨Nat.le_of_ble_eq_true rfl, Nat.le_of_ble_eq_true rfl⟩ (fun p77 H locs ep77 hP hS => ?_)
          rewrite [← ep77] at h
          rewrite [f_X3_addBattery_c77] at h
          refine lv_aload_n hx hb dX3_addBattery_80 rfl (lv_at hl 0 rfl) ?_
          refine lv_dup hx hb dX3_addBattery_81 rfl ?_
          refine cgM hx hb hw3 hown hK hP 4 (by decide) (v := .int (p77.1 4)) rfl (hts (.fieldLink RX3 71 "BackupPower" "batteryCount" "I") (by decide +kernel)) dX3_addBattery_82 ?_
          refine lv_iconst (v := 1) hx hb dX3_addBattery_85 (by decide) ?_
          refine lv_iadd hx hb dX3_addBattery_86 ?_
          refine cpM hx hb hw3 hown hK ha hP hS 4 (by decide) (by decide) rfl okI (hts (.fieldLink RX3 71 "BackupPower" "batteryCount" "I") (by decide +kernel)) dX3_addBattery_87 (fun H locs hP hS => ?_)
          refine lv_aload_n hx hb dX3_addBattery_90 rfl (lv_at hl 0 rfl) ?_
          refine cgM hx hb hw3 hown hK hP 4 (by decide) (v := .int ((cuM p77 4 ((p77.1 4) + 1)).1 4)) rfl (hts (.fieldLink RX3 71 "BackupPower" "batteryCount" "I") (by decide +kernel)) dX3_addBattery_91 ?_
          refine lv_iconst (v := 1) hx hb dX3_addBattery_94 (by decide) ?_
          refine lv_isub hx hb dX3_addBattery_95 ?_
          exact gRi (wf := CW G.2 a) (S := (cuM p77 4 ((p77.1 4) + 1))) hx hb hr hlocks hP hS h dX3_addBattery_96
        · exact absurd (ad_1 (by decide) hc4) c52
      · exact absurd c30 (by decide)

def f_X3_addGenerator_c76 (x1 : Int32) (x2 : Int32) (x3 : Int32) (p76 : CS) : Int32 × CS := (((cuM p76 5 ((p76.1 5) + 1)).1 5) - 1, (cuM p76 5 ((p76.1 5) + 1)))
def f_X3_addGenerator (x1 : Int32) (x2 : Int32) (x3 : Int32) (S : CS) : Int32 × CS := (f_X3_addGenerator_c76 x1 x2 x3 (f_X1_install ((S.1 5).toNatClampNeg) x1 x2 x3 S))
set_option maxHeartbeats 4000000 in
set_option maxRecDepth 100000 in
theorem c_X3_addGenerator (l : Launch) (G : WG) (a : Nat → Nat) (ha : wInj 21 a) (x1 : Int32) (x2 : Int32) (x3 : Int32) (S : CS) (hc5 : ∃ n, n < 3 ∧ S.1 5 = nI n) (hr_x1 : (1 : Int32).toInt ≤ x1.toInt ∧ x1.toInt ≤ (1000 : Int32).toInt) (hr_x2 : (1 : Int32).toInt ≤ x2.toInt ∧ x2.toInt ≤ (10 : Int32).toInt) (hr_x3 : (1 : Int32).toInt ≤ x3.toInt ∧ x3.toInt ≤ (1000 : Int32).toInt) (sz : Nat) : gMi l yX3_addGenerator wsX3_addGenerator ({ frames := 1, cells := 0, slots := 0, locals := 23 }) G 21 a (CW G.2 a) [.ref (a 0), .int x1, .int x2, .int x3] S sz (f_X3_addGenerator x1 x2 x3 S) := by
  unfold gMi
  refine Met.ofW (cc := cX3_addGenerator) (maxL := 4) (ret := (some .int)) (by decide) rfl ?_
  intro p e s m args below meth c s₁ B hml hv
  obtain ⟨rfl, rfl, hP, hK⟩ := hv
  have hx := B.exec
  have hb := B.bytes
  have hr := B.returns
  have hts := atoms_spec (ws := wsX3_addGenerator) B.pre
  have hown : s.vm.findClass RX3 = some m.cls := findClass_of_methodNamed B.named
  have hlocks := B.notSynchronized
  have hS : va_S (wA 21 a s.heap.size) s.heap s.heap [] := va_S.rf
  have hw3 : ∀ w ∈ wsX30, w.before ([.ref (a 0), .int x1, .int x2, .int x3] : List Value).toArray s = true := fun w hw => hts w ((by decide +kernel : ∀ w ∈ wsX30, w ∈ wsX3_addGenerator) w hw)
  have hl := lv_entry ([.ref (a 0), .int x1, .int x2, .int x3]) (n := 4) (Nat.le_of_ble_eq_true rfl)
  rw [lg_entry_eq]
  generalize (lg_sl ([.ref (a 0), .int x1, .int x2, .int x3] : List Value) ++ List.replicate (4 - (lg_sl ([.ref (a 0), .int x1, .int x2, .int x3] : List Value)).length) Slot.unset).toArray = ls at hl ⊢
  have hl : lv_has ls 4 [(0, .ref (a 0)), (1, .int x1), (2, .int x2), (3, .int x3)] := hl
  generalize hF : f_X3_addGenerator x1 x2 x3 S = F
  have h : f_X3_addGenerator x1 x2 x3 S = F := hF
  clear hF
  show W p l e ({ frames := 1, cells := 0, slots := 0, locals := 23 } : Room) s m ([.ref (a 0), .int x1, .int x2, .int x3] : List Value).toArray below meth c s.heap [] 0 0 (gQi below G (CW G.2 a) 21 a F ([.ref (a 0), .int x1, .int x2, .int x3] : List Value).toArray s) (F0 m 0 ls [])
  rewrite [f_X3_addGenerator] at h
  refine lv_iload_n hx hb dX3_addGenerator_0 rfl (lv_at hl 1 rfl) ?_
  refine lv_iconst (v := 1) hx hb dX3_addGenerator_1 (by decide) ?_
  refine lv_sipush (v := 1000) hx hb dX3_addGenerator_2 (by decide) ?_
  refine gcSz0 (wf := CW G.2 a) (N := 21) (ad := a) (As := [.int x1, .int 1, .int 1000]) (rest := []) (S := S) (v := 0) (S' := S) ⟨hx, hb, hml, hown, hts⟩ hK hP hS (q_isO l G a ha x1 1 1000 S hr_x1 _) (va_cwS 3 hts gX3_addGenerator_X3_isOutside rfl rfl rfl (by decide +kernel) ⟨Nat.le_of_ble_eq_true rfl, Nat.le_of_ble_eq_true rfl⟩) rfl hl.1 rfl (Nat.le_of_ble_eq_true rfl) dX3_addGenerator_5 ⟨Nat.le_of_ble_eq_true rfl, Nat.le_of_ble_eq_true rfl⟩ (fun H locs hbp5 hP hS => ?_)
  refine lv_if_ne (tgt := 32) hx hb dX3_addGenerator_8 (by decide) (fun c8 => ?_) (fun c8 => ?_)
  · exact absurd c8 (by decide)
  · refine lv_iload_n hx hb dX3_addGenerator_11 rfl (lv_at hl 2 rfl) ?_
    refine lv_iconst (v := 1) hx hb dX3_addGenerator_12 (by decide) ?_
    refine lv_bipush (v := 10) hx hb dX3_addGenerator_13 (by decide) ?_
    refine gcSz0 (wf := CW G.2 a) (N := 21) (ad := a) (As := [.int x2, .int 1, .int 10]) (rest := []) (S := S) (v := 0) (S' := S) ⟨hx, hb, hml, hown, hts⟩ hK hP hS (q_isO l G a ha x2 1 10 S hr_x2 _) (va_cwS 3 hts gX3_addGenerator_X3_isOutside rfl rfl rfl (by decide +kernel) ⟨Nat.le_of_ble_eq_true rfl, Nat.le_of_ble_eq_true rfl⟩) rfl hl.1 rfl (Nat.le_of_ble_eq_true rfl) dX3_addGenerator_15 ⟨Nat.le_of_ble_eq_true rfl, Nat.le_of_ble_eq_true rfl⟩ (fun H locs hbp15 hP hS => ?_)
    refine lv_if_ne (tgt := 32) hx hb dX3_addGenerator_18 (by decide) (fun c18 => ?_) (fun c18 => ?_)
    · exact absurd c18 (by decide)
    · refine lv_iload_n hx hb dX3_addGenerator_21 rfl (lv_at hl 3 rfl) ?_
      refine lv_iconst (v := 1) hx hb dX3_addGenerator_22 (by decide) ?_
      refine lv_sipush (v := 1000) hx hb dX3_addGenerator_23 (by decide) ?_
      refine gcSz0 (wf := CW G.2 a) (N := 21) (ad := a) (As := [.int x3, .int 1, .int 1000]) (rest := []) (S := S) (v := 0) (S' := S) ⟨hx, hb, hml, hown, hts⟩ hK hP hS (q_isO l G a ha x3 1 1000 S hr_x3 _) (va_cwS 3 hts gX3_addGenerator_X3_isOutside rfl rfl rfl (by decide +kernel) ⟨Nat.le_of_ble_eq_true rfl, Nat.le_of_ble_eq_true rfl⟩) rfl hl.1 rfl (Nat.le_of_ble_eq_true rfl) dX3_addGenerator_26 ⟨Nat.le_of_ble_eq_true rfl, Nat.le_of_ble_eq_true rfl⟩ (fun H locs hbp26 hP hS => ?_)
      refine lv_if_eq (tgt := 42) hx hb dX3_addGenerator_29 (by decide) (fun c29 => ?_) (fun c29 => ?_)
      · refine lv_aload_n hx hb dX3_addGenerator_42 rfl (lv_at hl 0 rfl) ?_
        refine cgM hx hb hw3 hown hK hP 5 (by decide) (v := .int (S.1 5)) rfl (hts (.fieldLink RX3 79 "BackupPower" "generatorCount" "I") (by decide +kernel)) dX3_addGenerator_43 ?_
        refine lv_aload_n hx hb dX3_addGenerator_46 rfl (lv_at hl 0 rfl) ?_
        refine cgM hx hb hw3 hown hK hP 2 (by decide) (v := .ref (a 3)) rfl (hts (.fieldLink RX3 23 "BackupPower" "generators" "[LBackupPower$Generator;") (by decide +kernel)) dX3_addGenerator_47 ?_
        refine clG hx hb hK hP dX3_addGenerator_50 ?_
        refine lv_icmp_lt (tgt := 64) hx hb dX3_addGenerator_51 (by decide) (fun c51 => ?_) (fun c51 => ?_)
        · refine lv_aload_n hx hb dX3_addGenerator_64 rfl (lv_at hl 0 rfl) ?_
          refine cgM hx hb hw3 hown hK hP 2 (by decide) (v := .ref (a 3)) rfl (hts (.fieldLink RX3 23 "BackupPower" "generators" "[LBackupPower$Generator;") (by decide +kernel)) dX3_addGenerator_65 ?_
          refine lv_aload_n hx hb dX3_addGenerator_68 rfl (lv_at hl 0 rfl) ?_
          refine cgM hx hb hw3 hown hK hP 5 (by decide) (v := .int (S.1 5)) rfl (hts (.fieldLink RX3 79 "BackupPower" "generatorCount" "I") (by decide +kernel)) dX3_addGenerator_69 ?_
          have hix72 : vp_in (S.1 5) 3 := (ad_2 (by decide) hc5)
          have hjx72 : (S.1 5).toNatClampNeg < 3 := vp_lt hix72
          refine crdGI hx hb hK hP hix72 dX3_addGenerator_72 ?_
          refine lv_iload_n hx hb dX3_addGenerator_73 rfl (lv_at hl 1 rfl) ?_
          refine lv_iload_n hx hb dX3_addGenerator_74 rfl (lv_at hl 2 rfl) ?_
          refine lv_iload_n hx hb dX3_addGenerator_75 rfl (lv_at hl 3 rfl) ?_
          refine gcVv (wf := CW G.2 a) (N := 21) (ad := a) (As := [.int x1, .int x2, .int x3]) (rest := []) (S := S) ⟨hx, hb, hml, hown, hts⟩ hK hP hS (c_X1_install l G a ha ((S.1 5).toNatClampNeg) (by omega) x1 x2 x3 S _) (cwV 3 hts gX3_addGenerator_X1_install rfl rfl rfl (by decide +kernel) ⟨Nat.le_of_ble_eq_true rfl, Nat.le_of_ble_eq_true rfl⟩) (crG hK hP (i := (S.1 5).toNatClampNeg) (by omega)) rfl hl.1 rfl (Nat.le_of_ble_eq_true rfl) dX3_addGenerator_76 ⟨Nat.le_of_ble_eq_true rfl, Nat.le_of_ble_eq_true rfl⟩ (fun p76 H locs ep76 hP hS => ?_)
          rewrite [← ep76] at h
          rewrite [f_X3_addGenerator_c76] at h
          refine lv_aload_n hx hb dX3_addGenerator_79 rfl (lv_at hl 0 rfl) ?_
          refine lv_dup hx hb dX3_addGenerator_80 rfl ?_
          refine cgM hx hb hw3 hown hK hP 5 (by decide) (v := .int (p76.1 5)) rfl (hts (.fieldLink RX3 79 "BackupPower" "generatorCount" "I") (by decide +kernel)) dX3_addGenerator_81 ?_
          refine lv_iconst (v := 1) hx hb dX3_addGenerator_84 (by decide) ?_
          refine lv_iadd hx hb dX3_addGenerator_85 ?_
          refine cpM hx hb hw3 hown hK ha hP hS 5 (by decide) (by decide) rfl okI (hts (.fieldLink RX3 79 "BackupPower" "generatorCount" "I") (by decide +kernel)) dX3_addGenerator_86 (fun H locs hP hS => ?_)
          refine lv_aload_n hx hb dX3_addGenerator_89 rfl (lv_at hl 0 rfl) ?_
          refine cgM hx hb hw3 hown hK hP 5 (by decide) (v := .int ((cuM p76 5 ((p76.1 5) + 1)).1 5)) rfl (hts (.fieldLink RX3 79 "BackupPower" "generatorCount" "I") (by decide +kernel)) dX3_addGenerator_90 ?_
          refine lv_iconst (v := 1) hx hb dX3_addGenerator_93 (by decide) ?_
          refine lv_isub hx hb dX3_addGenerator_94 ?_
          exact gRi (wf := CW G.2 a) (S := (cuM p76 5 ((p76.1 5) + 1))) hx hb hr hlocks hP hS h dX3_addGenerator_95
        · exact absurd (ad_1 (by decide) hc5) c51
      · exact absurd c29 (by decide)

def f_X3_pass_c32 (x1 : Nat) (K25 : Nat → CS → Int32 → Int32 × CS) (k25 : Nat) (v2_25 : Int32) (p32 : Int32 × CS) : Int32 × CS := (K25 (k25 + 1) p32.2 (v2_25 + p32.1))
def f_X3_pass_h25 (x1 : Nat) : Nat → Nat → CS → Int32 → Int32 × CS
  | 0, _, S25, _ => (0, S25)
  | q + 1, k25, S25, v2_25 => (if x1 ≤ k25 then (v2_25, S25) else (f_X3_pass_c32 x1 (f_X3_pass_h25 x1 q) k25 v2_25 (f_X3_passOneMinute S25)))
def f_X3_pass (x1 : Nat) (S : CS) : Int32 × CS := (f_X3_pass_h25 x1 (x1 + 1) 0 S 0)
set_option maxHeartbeats 4000000 in
set_option maxRecDepth 100000 in
theorem c_X3_pass (l : Launch) (G : WG) (a : Nat → Nat) (ha : wInj 21 a) (x1 : Nat) (hx1 : x1 ≤ 500) (S : CS) (hp1 : 1 ≤ x1) (sz : Nat) : gMi l yX3_pass wsX3_pass ({ frames := 5, cells := 0, slots := 0, locals := 118 }) G 21 a (CW G.2 a) [.ref (a 0), .int (nI x1)] S sz (f_X3_pass x1 S) := by
  unfold gMi
  refine Met.ofW (cc := cX3_pass) (maxL := 4) (ret := (some .int)) (by decide) rfl ?_
  intro p e s m args below meth c s₁ B hml hv
  obtain ⟨rfl, rfl, hP, hK⟩ := hv
  have hx := B.exec
  have hb := B.bytes
  have hr := B.returns
  have hts := atoms_spec (ws := wsX3_pass) B.pre
  have hown : s.vm.findClass RX3 = some m.cls := findClass_of_methodNamed B.named
  have hlocks := B.notSynchronized
  have hS : va_S (wA 21 a s.heap.size) s.heap s.heap [] := va_S.rf
  have hl := lv_entry ([.ref (a 0), .int (nI x1)]) (n := 4) (Nat.le_of_ble_eq_true rfl)
  rw [lg_entry_eq]
  generalize (lg_sl ([.ref (a 0), .int (nI x1)] : List Value) ++ List.replicate (4 - (lg_sl ([.ref (a 0), .int (nI x1)] : List Value)).length) Slot.unset).toArray = ls at hl ⊢
  have hl : lv_has ls 4 [(0, .ref (a 0)), (1, .int (nI x1))] := hl
  generalize hF : f_X3_pass x1 S = F
  have h : f_X3_pass x1 S = F := hF
  clear hF
  show W p l e ({ frames := 5, cells := 0, slots := 0, locals := 118 } : Room) s m ([.ref (a 0), .int (nI x1)] : List Value).toArray below meth c s.heap [] 0 0 (gQi below G (CW G.2 a) 21 a F ([.ref (a 0), .int (nI x1)] : List Value).toArray s) (F0 m 0 ls [])
  have L25 : ∀ (q25 : Nat) (k25 : Nat) (S25 : CS) (v2_25 : Int32), k25 ≤ x1 → x1 < k25 + q25 → f_X3_pass_h25 x1 q25 k25 S25 v2_25 = F → ∀ (H : Heap) (locs : List Loc) (ls : Array Slot), wC G a S25 H → va_S (wA 21 a s.heap.size) s.heap H locs → lv_has ls 4 [(0, .ref (a 0)), (1, .int (nI x1)), (2, .int v2_25), (3, .int (nI k25))] → W p l e ({ frames := 5, cells := 0, slots := 0, locals := 118 } : Room) s m ([.ref (a 0), .int (nI x1)] : List Value).toArray below meth c H locs 0 0 (gQi below G (CW G.2 a) 21 a F ([.ref (a 0), .int (nI x1)] : List Value).toArray s) (F0 m 25 ls []) := by
    intro q25
    induction q25 with
    | zero => intro k25 S25 v2_25 hk25 hq25 h H locs ls hP hS hl; omega
    | succ q25 ih25 =>
      intro k25 S25 v2_25 hk25 hq25 h H locs ls hP hS hl
      rewrite [f_X3_pass_h25] at h
      refine lv_iload_n hx hb dX3_pass_25 rfl (lv_at hl 3 rfl) ?_
      refine lv_iload_n hx hb dX3_pass_26 rfl (lv_at hl 1 rfl) ?_
      refine lv_icmp_ge (tgt := 43) hx hb dX3_pass_27 (by decide) (fun c27 => ?_) (fun c27 => ?_)
      · have c27 : x1 ≤ k25 := (nI_leI (a := x1) (b := k25) (by omega) (by omega)).mp c27
        rewrite [if_pos c27] at h
        refine lv_iload_n hx hb dX3_pass_43 rfl (lv_at hl 2 rfl) ?_
        exact gRi (wf := CW G.2 a) (S := S25) hx hb hr hlocks hP hS h dX3_pass_44
      · have c27 : ¬ x1 ≤ k25 := fun z => c27 ((nI_leI (a := x1) (b := k25) (by omega) (by omega)).mpr z)
        rewrite [if_neg c27] at h
        refine lv_iload_n hx hb dX3_pass_30 rfl (lv_at hl 2 rfl) ?_
        refine lv_aload_n hx hb dX3_pass_31 rfl (lv_at hl 0 rfl) ?_
        refine gcVi (wf := CW G.2 a) (N := 21) (ad := a) (As := []) (rest := [.int v2_25]) (S := S25) ⟨hx, hb, hml, hown, hts⟩ hK hP hS (c_X3_passOneMinute l G a ha  S25 _) (cwV 0 hts gX3_pass_X3_passOneMinute rfl rfl rfl (by decide +kernel) ⟨Nat.le_of_ble_eq_true rfl, Nat.le_of_ble_eq_true rfl⟩) (crM hK hP) rfl hl.1 rfl (Nat.le_of_ble_eq_true rfl) dX3_pass_32 ⟨Nat.le_of_ble_eq_true rfl, Nat.le_of_ble_eq_true rfl⟩ (fun p32 H locs ep32 hP hS => ?_)
        rewrite [← ep32] at h
        rewrite [f_X3_pass_c32] at h
        refine lv_iadd hx hb dX3_pass_35 ?_
        refine lv_istore_n (lv' := [(2, .int (v2_25 + p32.1)), (0, .ref (a 0)), (1, .int (nI x1)), (3, .int (nI k25))]) hx hb dX3_pass_36 rfl hl (by decide) rfl (fun ls hl => ?_)
        refine lv_iinc (k := 3) (v := nI (k25 + 1)) (lv' := [(3, .int (nI (k25 + 1))), (2, .int (v2_25 + p32.1)), (0, .ref (a 0)), (1, .int (nI x1))]) hx hb dX3_pass_37 hl rfl (nI_inc _) (by decide) rfl (fun ls hl => ?_)
        refine lv_goto (tgt := 25) hx hb dX3_pass_40 (by decide) ?_
        exact ih25 (k25 + 1) p32.2 (v2_25 + p32.1) (by omega) (by omega) h _ _ _ hP hS (lv_sub hl [2, 3, 1, 0] rfl)
  rewrite [f_X3_pass] at h
  refine lv_iload_n hx hb dX3_pass_0 rfl (lv_at hl 1 rfl) ?_
  refine lv_iconst (v := 1) hx hb dX3_pass_1 (by decide) ?_
  refine lv_sipush (v := 500) hx hb dX3_pass_2 (by decide) ?_
  refine gcSz0 (wf := CW G.2 a) (N := 21) (ad := a) (As := [.int (nI x1), .int 1, .int 500]) (rest := []) (S := S) (v := 0) (S' := S) ⟨hx, hb, hml, hown, hts⟩ hK hP hS (q_isO l G a ha (nI x1) 1 500 S (ps_r hp1 hx1) _) (va_cwS 3 hts gX3_pass_X3_isOutside rfl rfl rfl (by decide +kernel) ⟨Nat.le_of_ble_eq_true rfl, Nat.le_of_ble_eq_true rfl⟩) rfl hl.1 rfl (Nat.le_of_ble_eq_true rfl) dX3_pass_5 ⟨Nat.le_of_ble_eq_true rfl, Nat.le_of_ble_eq_true rfl⟩ (fun H locs hbp5 hP hS => ?_)
  refine lv_if_eq (tgt := 21) hx hb dX3_pass_8 (by decide) (fun c8 => ?_) (fun c8 => ?_)
  · refine lv_iconst (v := 0) hx hb dX3_pass_21 (by decide) ?_
    refine lv_istore_n (lv' := [(2, .int 0), (0, .ref (a 0)), (1, .int (nI x1))]) hx hb dX3_pass_22 rfl hl (by decide) rfl (fun ls hl => ?_)
    refine lv_iconst (v := 0) hx hb dX3_pass_23 (by decide) ?_
    refine lv_istore_n (lv' := [(3, .int 0), (2, .int 0), (0, .ref (a 0)), (1, .int (nI x1))]) hx hb dX3_pass_24 rfl hl (by decide) rfl (fun ls hl => ?_)
    exact L25 (x1 + 1) 0 S 0 (by omega) (by omega) h _ _ _ hP hS (lv_sub hl [2, 3, 1, 0] rfl)
  · exact absurd c8 (by decide)
