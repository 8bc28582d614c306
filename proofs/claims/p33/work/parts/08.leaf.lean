def f_X0_install (k : Nat) (x1 : Int32) (x2 : Int32) (x3 : Int32) (S : CS) : CS := (cuB (cuB (cuB (cuB S k 0 x1) k 1 x1) k 2 x2) k 3 x3)
set_option maxHeartbeats 4000000 in
set_option maxRecDepth 100000 in
theorem c_X0_install (l : Launch) (G : WG) (a : Nat → Nat) (ha : wInj 21 a) (k : Nat) (hk : k < 3) (x1 : Int32) (x2 : Int32) (x3 : Int32) (S : CS) (sz : Nat) : gMv l yX0_install wsX0_install ({ frames := 0, cells := 0, slots := 0, locals := 0 }) G 21 a (CW G.2 a) [.ref (a (14 + k)), .int x1, .int x2, .int x3] S sz (f_X0_install k x1 x2 x3 S) := by
  unfold gMv
  refine Met.ofW (cc := cX0_install) (maxL := 4) (ret := none) (by decide) rfl ?_
  intro p e s m args below meth c s₁ B hml hv
  obtain ⟨rfl, rfl, hP, hK⟩ := hv
  have hx := B.exec
  have hb := B.bytes
  have hr := B.returns
  have hts := atoms_spec (ws := wsX0_install) B.pre
  have hown : s.vm.findClass RX0 = some m.cls := findClass_of_methodNamed B.named
  have hlocks := B.notSynchronized
  have hS : va_S (wA 21 a s.heap.size) s.heap s.heap [] := va_S.rf
  have hw0 : ∀ w ∈ wsX00, w.before ([.ref (a (14 + k)), .int x1, .int x2, .int x3] : List Value).toArray s = true := fun w hw => hts w ((by decide +kernel : ∀ w ∈ wsX00, w ∈ wsX0_install) w hw)
  have hl := lv_entry ([.ref (a (14 + k)), .int x1, .int x2, .int x3]) (n := 4) (Nat.le_of_ble_eq_true rfl)
  rw [lg_entry_eq]
  generalize (lg_sl ([.ref (a (14 + k)), .int x1, .int x2, .int x3] : List Value) ++ List.replicate (4 - (lg_sl ([.ref (a (14 + k)), .int x1, .int x2, .int x3] : List Value)).length) Slot.unset).toArray = ls at hl ⊢
  have hl : lv_has ls 4 [(0, .ref (a (14 + k))), (1, .int x1), (2, .int x2), (3, .int x3)] := hl
  generalize hF : f_X0_install k x1 x2 x3 S = F
  have h : f_X0_install k x1 x2 x3 S = F := hF
  clear hF
  show W p l e ({ frames := 0, cells := 0, slots := 0, locals := 0 } : Room) s m ([.ref (a (14 + k)), .int x1, .int x2, .int x3] : List Value).toArray below meth c s.heap [] 0 0 (gQv below G (CW G.2 a) 21 a F ([.ref (a (14 + k)), .int x1, .int x2, .int x3] : List Value).toArray s) (F0 m 0 ls [])
  rewrite [f_X0_install] at h
  refine lv_aload_n hx hb dX0_install_0 rfl (lv_at hl 0 rfl) ?_
  refine lv_iload_n hx hb dX0_install_1 rfl (lv_at hl 1 rfl) ?_
  refine cpB hx hb hw0 hown hK ha hP hS (i := k) (by omega) 0 (by decide) rfl okI (hts (.fieldLink RX0 7 "BackupPower$Battery" "capacity" "I") (by decide +kernel)) dX0_install_2 (fun H locs hP hS => ?_)
  refine lv_aload_n hx hb dX0_install_5 rfl (lv_at hl 0 rfl) ?_
  refine lv_iload_n hx hb dX0_install_6 rfl (lv_at hl 1 rfl) ?_
  refine cpB hx hb hw0 hown hK ha hP hS (i := k) (by omega) 1 (by decide) rfl okI (hts (.fieldLink RX0 13 "BackupPower$Battery" "charge" "I") (by decide +kernel)) dX0_install_7 (fun H locs hP hS => ?_)
  refine lv_aload_n hx hb dX0_install_10 rfl (lv_at hl 0 rfl) ?_
  refine lv_iload_n hx hb dX0_install_11 rfl (lv_at hl 2 rfl) ?_
  refine cpB hx hb hw0 hown hK ha hP hS (i := k) (by omega) 2 (by decide) rfl okI (hts (.fieldLink RX0 16 "BackupPower$Battery" "rate" "I") (by decide +kernel)) dX0_install_12 (fun H locs hP hS => ?_)
  refine lv_aload_n hx hb dX0_install_15 rfl (lv_at hl 0 rfl) ?_
  refine lv_iload_n hx hb dX0_install_16 rfl (lv_at hl 3 rfl) ?_
  refine cpB hx hb hw0 hown hK ha hP hS (i := k) (by omega) 3 (by decide) rfl okI (hts (.fieldLink RX0 19 "BackupPower$Battery" "chargingRate" "I") (by decide +kernel)) dX0_install_17 (fun H locs hP hS => ?_)
  exact gRv (wf := CW G.2 a) (S := (cuB (cuB (cuB (cuB S k 0 x1) k 1 x1) k 2 x2) k 3 x3)) hx hb hr hlocks hP hS h dX0_install_20

def f_X0_canGive (k : Nat) (S : CS) : Int32 × CS := ((if S.2.2.1 k 1 < S.2.2.1 k 2 then S.2.2.1 k 1 else S.2.2.1 k 2), S)
set_option maxHeartbeats 4000000 in
set_option maxRecDepth 100000 in
theorem c_X0_canGive (l : Launch) (G : WG) (a : Nat → Nat) (ha : wInj 21 a) (k : Nat) (hk : k < 3) (S : CS) (sz : Nat) : gMi l yX0_canGive wsX0_canGive ({ frames := 1, cells := 0, slots := 0, locals := 21 }) G 21 a (CW G.2 a) [.ref (a (14 + k))] S sz (f_X0_canGive k S) := by
  unfold gMi
  refine Met.ofW (cc := cX0_canGive) (maxL := 1) (ret := (some .int)) (by decide) rfl ?_
  intro p e s m args below meth c s₁ B hml hv
  obtain ⟨rfl, rfl, hP, hK⟩ := hv
  have hx := B.exec
  have hb := B.bytes
  have hr := B.returns
  have hts := atoms_spec (ws := wsX0_canGive) B.pre
  have hown : s.vm.findClass RX0 = some m.cls := findClass_of_methodNamed B.named
  have hlocks := B.notSynchronized
  have hS : va_S (wA 21 a s.heap.size) s.heap s.heap [] := va_S.rf
  have hw0 : ∀ w ∈ wsX00, w.before ([.ref (a (14 + k))] : List Value).toArray s = true := fun w hw => hts w ((by decide +kernel : ∀ w ∈ wsX00, w ∈ wsX0_canGive) w hw)
  have hl := lv_entry ([.ref (a (14 + k))]) (n := 1) (Nat.le_of_ble_eq_true rfl)
  rw [lg_entry_eq]
  generalize (lg_sl ([.ref (a (14 + k))] : List Value) ++ List.replicate (1 - (lg_sl ([.ref (a (14 + k))] : List Value)).length) Slot.unset).toArray = ls at hl ⊢
  have hl : lv_has ls 1 [(0, .ref (a (14 + k)))] := hl
  generalize hF : f_X0_canGive k S = F
  have h : f_X0_canGive k S = F := hF
  clear hF
  show W p l e ({ frames := 1, cells := 0, slots := 0, locals := 21 } : Room) s m ([.ref (a (14 + k))] : List Value).toArray below meth c s.heap [] 0 0 (gQi below G (CW G.2 a) 21 a F ([.ref (a (14 + k))] : List Value).toArray s) (F0 m 0 ls [])
  rewrite [f_X0_canGive] at h
  refine lv_aload_n hx hb dX0_canGive_0 rfl (lv_at hl 0 rfl) ?_
  refine cgB hx hb hw0 hown hK hP (i := k) (by omega) 2 (by decide) (hts (.fieldLink RX0 16 "BackupPower$Battery" "rate" "I") (by decide +kernel)) dX0_canGive_1 ?_
  refine lv_aload_n hx hb dX0_canGive_4 rfl (lv_at hl 0 rfl) ?_
  refine cgB hx hb hw0 hown hK hP (i := k) (by omega) 1 (by decide) (hts (.fieldLink RX0 13 "BackupPower$Battery" "charge" "I") (by decide +kernel)) dX0_canGive_5 ?_
  refine va_mmin hx hb (hml.trans hl.1.symm) hown (hts (.methodLink RX0 22 Lib.Math.min.name) (by decide +kernel)) (hts (.static Lib.Math.min.name) (by decide +kernel)) (hts (.initialized "java/lang/Math") (by decide +kernel)) (hts (.code Lib.Math.min.name Lib.Math.min.code 2 (some .int)) (by decide +kernel)) (Nat.le_of_ble_eq_true rfl) (Nat.le_of_ble_eq_true rfl) (Nat.le_of_ble_eq_true rfl) (Nat.le_of_ble_eq_true rfl) dX0_canGive_8 ?_
  exact gRi (wf := CW G.2 a) (S := S) hx hb hr hlocks hP hS h dX0_canGive_11

def f_X0_canTake (k : Nat) (S : CS) : Int32 × CS := ((if (S.2.2.1 k 0) - (S.2.2.1 k 1) < S.2.2.1 k 3 then (S.2.2.1 k 0) - (S.2.2.1 k 1) else S.2.2.1 k 3), S)
set_option maxHeartbeats 4000000 in
set_option maxRecDepth 100000 in
theorem c_X0_canTake (l : Launch) (G : WG) (a : Nat → Nat) (ha : wInj 21 a) (k : Nat) (hk : k < 3) (S : CS) (sz : Nat) : gMi l yX0_canTake wsX0_canTake ({ frames := 1, cells := 0, slots := 0, locals := 21 }) G 21 a (CW G.2 a) [.ref (a (14 + k))] S sz (f_X0_canTake k S) := by
  unfold gMi
  refine Met.ofW (cc := cX0_canTake) (maxL := 1) (ret := (some .int)) (by decide) rfl ?_
  intro p e s m args below meth c s₁ B hml hv
  obtain ⟨rfl, rfl, hP, hK⟩ := hv
  have hx := B.exec
  have hb := B.bytes
  have hr := B.returns
  have hts := atoms_spec (ws := wsX0_canTake) B.pre
  have hown : s.vm.findClass RX0 = some m.cls := findClass_of_methodNamed B.named
  have hlocks := B.notSynchronized
  have hS : va_S (wA 21 a s.heap.size) s.heap s.heap [] := va_S.rf
  have hw0 : ∀ w ∈ wsX00, w.before ([.ref (a (14 + k))] : List Value).toArray s = true := fun w hw => hts w ((by decide +kernel : ∀ w ∈ wsX00, w ∈ wsX0_canTake) w hw)
  have hl := lv_entry ([.ref (a (14 + k))]) (n := 1) (Nat.le_of_ble_eq_true rfl)
  rw [lg_entry_eq]
  generalize (lg_sl ([.ref (a (14 + k))] : List Value) ++ List.replicate (1 - (lg_sl ([.ref (a (14 + k))] : List Value)).length) Slot.unset).toArray = ls at hl ⊢
  have hl : lv_has ls 1 [(0, .ref (a (14 + k)))] := hl
  generalize hF : f_X0_canTake k S = F
  have h : f_X0_canTake k S = F := hF
  clear hF
  show W p l e ({ frames := 1, cells := 0, slots := 0, locals := 21 } : Room) s m ([.ref (a (14 + k))] : List Value).toArray below meth c s.heap [] 0 0 (gQi below G (CW G.2 a) 21 a F ([.ref (a (14 + k))] : List Value).toArray s) (F0 m 0 ls [])
  rewrite [f_X0_canTake] at h
  refine lv_aload_n hx hb dX0_canTake_0 rfl (lv_at hl 0 rfl) ?_
  refine cgB hx hb hw0 hown hK hP (i := k) (by omega) 3 (by decide) (hts (.fieldLink RX0 19 "BackupPower$Battery" "chargingRate" "I") (by decide +kernel)) dX0_canTake_1 ?_
  refine lv_aload_n hx hb dX0_canTake_4 rfl (lv_at hl 0 rfl) ?_
  refine cgB hx hb hw0 hown hK hP (i := k) (by omega) 0 (by decide) (hts (.fieldLink RX0 7 "BackupPower$Battery" "capacity" "I") (by decide +kernel)) dX0_canTake_5 ?_
  refine lv_aload_n hx hb dX0_canTake_8 rfl (lv_at hl 0 rfl) ?_
  refine cgB hx hb hw0 hown hK hP (i := k) (by omega) 1 (by decide) (hts (.fieldLink RX0 13 "BackupPower$Battery" "charge" "I") (by decide +kernel)) dX0_canTake_9 ?_
  refine lv_isub hx hb dX0_canTake_12 ?_
  refine va_mmin hx hb (hml.trans hl.1.symm) hown (hts (.methodLink RX0 22 Lib.Math.min.name) (by decide +kernel)) (hts (.static Lib.Math.min.name) (by decide +kernel)) (hts (.initialized "java/lang/Math") (by decide +kernel)) (hts (.code Lib.Math.min.name Lib.Math.min.code 2 (some .int)) (by decide +kernel)) (Nat.le_of_ble_eq_true rfl) (Nat.le_of_ble_eq_true rfl) (Nat.le_of_ble_eq_true rfl) (Nat.le_of_ble_eq_true rfl) dX0_canTake_13 ?_
  exact gRi (wf := CW G.2 a) (S := S) hx hb hr hlocks hP hS h dX0_canTake_16

def f_X0_wearOut_b32 (k : Nat) (S32 : CS) : CS := S32
def f_X0_wearOut (k : Nat) (S : CS) : CS := (if (S.2.2.1 k 4) ≤ 0 then (f_X0_wearOut_b32 k S) else (if (S.2.2.1 k 1) = 0 then (if (S.2.2.1 k 0) ≤ 1 then (f_X0_wearOut_b32 k S) else (f_X0_wearOut_b32 k (cuB S k 0 ((S.2.2.1 k 0) - 1)))) else (f_X0_wearOut_b32 k S)))
set_option maxHeartbeats 4000000 in
set_option maxRecDepth 100000 in
theorem c_X0_wearOut (l : Launch) (G : WG) (a : Nat → Nat) (ha : wInj 21 a) (k : Nat) (hk : k < 3) (S : CS) (sz : Nat) : gMv l yX0_wearOut wsX0_wearOut ({ frames := 0, cells := 0, slots := 0, locals := 0 }) G 21 a (CW G.2 a) [.ref (a (14 + k))] S sz (f_X0_wearOut k S) := by
  unfold gMv
  refine Met.ofW (cc := cX0_wearOut) (maxL := 1) (ret := none) (by decide) rfl ?_
  intro p e s m args below meth c s₁ B hml hv
  obtain ⟨rfl, rfl, hP, hK⟩ := hv
  have hx := B.exec
  have hb := B.bytes
  have hr := B.returns
  have hts := atoms_spec (ws := wsX0_wearOut) B.pre
  have hown : s.vm.findClass RX0 = some m.cls := findClass_of_methodNamed B.named
  have hlocks := B.notSynchronized
  have hS : va_S (wA 21 a s.heap.size) s.heap s.heap [] := va_S.rf
  have hw0 : ∀ w ∈ wsX00, w.before ([.ref (a (14 + k))] : List Value).toArray s = true := fun w hw => hts w ((by decide +kernel : ∀ w ∈ wsX00, w ∈ wsX0_wearOut) w hw)
  have hl := lv_entry ([.ref (a (14 + k))]) (n := 1) (Nat.le_of_ble_eq_true rfl)
  rw [lg_entry_eq]
  generalize (lg_sl ([.ref (a (14 + k))] : List Value) ++ List.replicate (1 - (lg_sl ([.ref (a (14 + k))] : List Value)).length) Slot.unset).toArray = ls at hl ⊢
  have hl : lv_has ls 1 [(0, .ref (a (14 + k)))] := hl
  generalize hF : f_X0_wearOut k S = F
  have h : f_X0_wearOut k S = F := hF
  clear hF
  show W p l e ({ frames := 0, cells := 0, slots := 0, locals := 0 } : Room) s m ([.ref (a (14 + k))] : List Value).toArray below meth c s.heap [] 0 0 (gQv below G (CW G.2 a) 21 a F ([.ref (a (14 + k))] : List Value).toArray s) (F0 m 0 ls [])
  have J32 : ∀ (S32 : CS), f_X0_wearOut_b32 k S32 = F → ∀ (H : Heap) (locs : List Loc) (ls : Array Slot), wC G a S32 H → va_S (wA 21 a s.heap.size) s.heap H locs → lv_has ls 1 [] → W p l e ({ frames := 0, cells := 0, slots := 0, locals := 0 } : Room) s m ([.ref (a (14 + k))] : List Value).toArray below meth c H locs 0 0 (gQv below G (CW G.2 a) 21 a F ([.ref (a (14 + k))] : List Value).toArray s) (F0 m 32 ls []) := by
    intro S32 h H locs ls hP hS hl
    rewrite [f_X0_wearOut_b32] at h
    exact gRv (wf := CW G.2 a) (S := S32) hx hb hr hlocks hP hS h dX0_wearOut_32
  rewrite [f_X0_wearOut] at h
  refine lv_aload_n hx hb dX0_wearOut_0 rfl (lv_at hl 0 rfl) ?_
  refine cgB hx hb hw0 hown hK hP (i := k) (by omega) 4 (by decide) (hts (.fieldLink RX0 28 "BackupPower$Battery" "chargeAhead" "I") (by decide +kernel)) dX0_wearOut_1 ?_
  refine lv_if_le (tgt := 32) hx hb dX0_wearOut_4 (by decide) (fun c4 => ?_) (fun c4 => ?_)
  · rewrite [if_pos c4] at h
    exact J32 S h _ _ _ hP hS (lv_sub hl [] rfl)
  · rewrite [if_neg c4] at h
    refine lv_aload_n hx hb dX0_wearOut_7 rfl (lv_at hl 0 rfl) ?_
    refine cgB hx hb hw0 hown hK hP (i := k) (by omega) 1 (by decide) (hts (.fieldLink RX0 13 "BackupPower$Battery" "charge" "I") (by decide +kernel)) dX0_wearOut_8 ?_
    refine lv_if_ne (tgt := 32) hx hb dX0_wearOut_11 (by decide) (fun c11 => ?_) (fun c11 => ?_)
    · rewrite [if_neg c11] at h
      exact J32 S h _ _ _ hP hS (lv_sub hl [] rfl)
    · rewrite [if_pos c11] at h
      refine lv_aload_n hx hb dX0_wearOut_14 rfl (lv_at hl 0 rfl) ?_
      refine cgB hx hb hw0 hown hK hP (i := k) (by omega) 0 (by decide) (hts (.fieldLink RX0 7 "BackupPower$Battery" "capacity" "I") (by decide +kernel)) dX0_wearOut_15 ?_
      refine lv_iconst (v := 1) hx hb dX0_wearOut_18 (by decide) ?_
      refine lv_icmp_le (tgt := 32) hx hb dX0_wearOut_19 (by decide) (fun c19 => ?_) (fun c19 => ?_)
      · rewrite [if_pos c19] at h
        exact J32 S h _ _ _ hP hS (lv_sub hl [] rfl)
      · rewrite [if_neg c19] at h
        refine lv_aload_n hx hb dX0_wearOut_22 rfl (lv_at hl 0 rfl) ?_
        refine lv_dup hx hb dX0_wearOut_23 rfl ?_
        refine cgB hx hb hw0 hown hK hP (i := k) (by omega) 0 (by decide) (hts (.fieldLink RX0 7 "BackupPower$Battery" "capacity" "I") (by decide +kernel)) dX0_wearOut_24 ?_
        refine lv_iconst (v := 1) hx hb dX0_wearOut_27 (by decide) ?_
        refine lv_isub hx hb dX0_wearOut_28 ?_
        refine cpB hx hb hw0 hown hK ha hP hS (i := k) (by omega) 0 (by decide) rfl okI (hts (.fieldLink RX0 7 "BackupPower$Battery" "capacity" "I") (by decide +kernel)) dX0_wearOut_29 (fun H locs hP hS => ?_)
        exact J32 (cuB S k 0 ((S.2.2.1 k 0) - 1)) h _ _ _ hP hS (lv_sub hl [] rfl)

def f_X1_install (k : Nat) (x1 : Int32) (x2 : Int32) (x3 : Int32) (S : CS) : CS := (cuG (cuG (cuG (cuG S k 0 x1) k 1 x2) k 2 x3) k 3 x3)
set_option maxHeartbeats 4000000 in
set_option maxRecDepth 100000 in
theorem c_X1_install (l : Launch) (G : WG) (a : Nat → Nat) (ha : wInj 21 a) (k : Nat) (hk : k < 3) (x1 : Int32) (x2 : Int32) (x3 : Int32) (S : CS) (sz : Nat) : gMv l yX1_install wsX1_install ({ frames := 0, cells := 0, slots := 0, locals := 0 }) G 21 a (CW G.2 a) [.ref (a (17 + k)), .int x1, .int x2, .int x3] S sz (f_X1_install k x1 x2 x3 S) := by
  unfold gMv
  refine Met.ofW (cc := cX1_install) (maxL := 4) (ret := none) (by decide) rfl ?_
  intro p e s m args below meth c s₁ B hml hv
  obtain ⟨rfl, rfl, hP, hK⟩ := hv
  have hx := B.exec
  have hb := B.bytes
  have hr := B.returns
  have hts := atoms_spec (ws := wsX1_install) B.pre
  have hown : s.vm.findClass RX1 = some m.cls := findClass_of_methodNamed B.named
  have hlocks := B.notSynchronized
  have hS : va_S (wA 21 a s.heap.size) s.heap s.heap [] := va_S.rf
  have hw1 : ∀ w ∈ wsX10, w.before ([.ref (a (17 + k)), .int x1, .int x2, .int x3] : List Value).toArray s = true := fun w hw => hts w ((by decide +kernel : ∀ w ∈ wsX10, w ∈ wsX1_install) w hw)
  have hl := lv_entry ([.ref (a (17 + k)), .int x1, .int x2, .int x3]) (n := 4) (Nat.le_of_ble_eq_true rfl)
  rw [lg_entry_eq]
  generalize (lg_sl ([.ref (a (17 + k)), .int x1, .int x2, .int x3] : List Value) ++ List.replicate (4 - (lg_sl ([.ref (a (17 + k)), .int x1, .int x2, .int x3] : List Value)).length) Slot.unset).toArray = ls at hl ⊢
  have hl : lv_has ls 4 [(0, .ref (a (17 + k))), (1, .int x1), (2, .int x2), (3, .int x3)] := hl
  generalize hF : f_X1_install k x1 x2 x3 S = F
  have h : f_X1_install k x1 x2 x3 S = F := hF
  clear hF
  show W p l e ({ frames := 0, cells := 0, slots := 0, locals := 0 } : Room) s m ([.ref (a (17 + k)), .int x1, .int x2, .int x3] : List Value).toArray below meth c s.heap [] 0 0 (gQv below G (CW G.2 a) 21 a F ([.ref (a (17 + k)), .int x1, .int x2, .int x3] : List Value).toArray s) (F0 m 0 ls [])
  rewrite [f_X1_install] at h
  refine lv_aload_n hx hb dX1_install_0 rfl (lv_at hl 0 rfl) ?_
  refine lv_iload_n hx hb dX1_install_1 rfl (lv_at hl 1 rfl) ?_
  refine cpG hx hb hw1 hown hK ha hP hS (i := k) (by omega) 0 (by decide) rfl okI (hts (.fieldLink RX1 15 "BackupPower$Generator" "power" "I") (by decide +kernel)) dX1_install_2 (fun H locs hP hS => ?_)
  refine lv_aload_n hx hb dX1_install_5 rfl (lv_at hl 0 rfl) ?_
  refine lv_iload_n hx hb dX1_install_6 rfl (lv_at hl 2 rfl) ?_
  refine cpG hx hb hw1 hown hK ha hP hS (i := k) (by omega) 1 (by decide) rfl okI (hts (.fieldLink RX1 18 "BackupPower$Generator" "delay" "I") (by decide +kernel)) dX1_install_7 (fun H locs hP hS => ?_)
  refine lv_aload_n hx hb dX1_install_10 rfl (lv_at hl 0 rfl) ?_
  refine lv_iload_n hx hb dX1_install_11 rfl (lv_at hl 3 rfl) ?_
  refine cpG hx hb hw1 hown hK ha hP hS (i := k) (by omega) 2 (by decide) rfl okI (hts (.fieldLink RX1 21 "BackupPower$Generator" "tank" "I") (by decide +kernel)) dX1_install_12 (fun H locs hP hS => ?_)
  refine lv_aload_n hx hb dX1_install_15 rfl (lv_at hl 0 rfl) ?_
  refine lv_iload_n hx hb dX1_install_16 rfl (lv_at hl 3 rfl) ?_
  refine cpG hx hb hw1 hown hK ha hP hS (i := k) (by omega) 3 (by decide) rfl okI (hts (.fieldLink RX1 24 "BackupPower$Generator" "fuel" "I") (by decide +kernel)) dX1_install_17 (fun H locs hP hS => ?_)
  exact gRv (wf := CW G.2 a) (S := (cuG (cuG (cuG (cuG S k 0 x1) k 1 x2) k 2 x3) k 3 x3)) hx hb hr hlocks hP hS h dX1_install_20

def f_X1_isSupplying_b20 (k : Nat) (S20 : CS) (s0_20 : Int32) : Int32 × CS := (s0_20, S20)
def f_X1_isSupplying_b19 (k : Nat) (S19 : CS) : Int32 × CS := (f_X1_isSupplying_b20 k S19 0)
def f_X1_isSupplying (k : Nat) (S : CS) : Int32 × CS := (if (S.2.2.2 k 4) = 2 then (if (S.2.2.2 k 5) = 0 then (f_X1_isSupplying_b20 k S 1) else (f_X1_isSupplying_b19 k S)) else (f_X1_isSupplying_b19 k S))
set_option maxHeartbeats 4000000 in
set_option maxRecDepth 100000 in
theorem c_X1_isSupplying (l : Launch) (G : WG) (a : Nat → Nat) (ha : wInj 21 a) (k : Nat) (hk : k < 3) (S : CS) (sz : Nat) : gMz l yX1_isSupplying wsX1_isSupplying ({ frames := 0, cells := 0, slots := 0, locals := 0 }) G 21 a (CW G.2 a) [.ref (a (17 + k))] S sz (f_X1_isSupplying k S) := by
  unfold gMz
  refine Met.ofW (cc := cX1_isSupplying) (maxL := 1) (ret := (some .boolean)) (by decide) rfl ?_
  intro p e s m args below meth c s₁ B hml hv
  obtain ⟨rfl, rfl, hP, hK⟩ := hv
  have hx := B.exec
  have hb := B.bytes
  have hr := B.returns
  have hts := atoms_spec (ws := wsX1_isSupplying) B.pre
  have hown : s.vm.findClass RX1 = some m.cls := findClass_of_methodNamed B.named
  have hlocks := B.notSynchronized
  have hS : va_S (wA 21 a s.heap.size) s.heap s.heap [] := va_S.rf
  have hw1 : ∀ w ∈ wsX10, w.before ([.ref (a (17 + k))] : List Value).toArray s = true := fun w hw => hts w ((by decide +kernel : ∀ w ∈ wsX10, w ∈ wsX1_isSupplying) w hw)
  have hl := lv_entry ([.ref (a (17 + k))]) (n := 1) (Nat.le_of_ble_eq_true rfl)
  rw [lg_entry_eq]
  generalize (lg_sl ([.ref (a (17 + k))] : List Value) ++ List.replicate (1 - (lg_sl ([.ref (a (17 + k))] : List Value)).length) Slot.unset).toArray = ls at hl ⊢
  have hl : lv_has ls 1 [(0, .ref (a (17 + k)))] := hl
  generalize hF : f_X1_isSupplying k S = F
  have h : f_X1_isSupplying k S = F := hF
  clear hF
  show W p l e ({ frames := 0, cells := 0, slots := 0, locals := 0 } : Room) s m ([.ref (a (17 + k))] : List Value).toArray below meth c s.heap [] 0 0 (gQz below G (CW G.2 a) 21 a F ([.ref (a (17 + k))] : List Value).toArray s) (F0 m 0 ls [])
  have J20 : ∀ (S20 : CS) (s0_20 : Int32), (isB s0_20) → f_X1_isSupplying_b20 k S20 s0_20 = F → ∀ (H : Heap) (locs : List Loc) (ls : Array Slot), wC G a S20 H → va_S (wA 21 a s.heap.size) s.heap H locs → lv_has ls 1 [] → W p l e ({ frames := 0, cells := 0, slots := 0, locals := 0 } : Room) s m ([.ref (a (17 + k))] : List Value).toArray below meth c H locs 0 0 (gQz below G (CW G.2 a) 21 a F ([.ref (a (17 + k))] : List Value).toArray s) (F0 m 20 ls [.int s0_20]) := by
    intro S20 s0_20 hbs0_20 h H locs ls hP hS hl
    rewrite [f_X1_isSupplying_b20] at h
    exact gRz (wf := CW G.2 a) (S := S20) hx hb hr hlocks hbs0_20 hP hS h dX1_isSupplying_20
  have J19 : ∀ (S19 : CS), f_X1_isSupplying_b19 k S19 = F → ∀ (H : Heap) (locs : List Loc) (ls : Array Slot), wC G a S19 H → va_S (wA 21 a s.heap.size) s.heap H locs → lv_has ls 1 [] → W p l e ({ frames := 0, cells := 0, slots := 0, locals := 0 } : Room) s m ([.ref (a (17 + k))] : List Value).toArray below meth c H locs 0 0 (gQz below G (CW G.2 a) 21 a F ([.ref (a (17 + k))] : List Value).toArray s) (F0 m 19 ls []) := by
    intro S19 h H locs ls hP hS hl
    rewrite [f_X1_isSupplying_b19] at h
    refine lv_iconst (v := 0) hx hb dX1_isSupplying_19 (by decide) ?_
    exact J20 S19 0 isB_0 h _ _ _ hP hS (lv_sub hl [] rfl)
  rewrite [f_X1_isSupplying] at h
  refine lv_aload_n hx hb dX1_isSupplying_0 rfl (lv_at hl 0 rfl) ?_
  refine cgG hx hb hw1 hown hK hP (i := k) (by omega) 4 (by decide) (hts (.fieldLink RX1 9 "BackupPower$Generator" "state" "I") (by decide +kernel)) dX1_isSupplying_1 ?_
  refine lv_iconst (v := 2) hx hb dX1_isSupplying_4 (by decide) ?_
  refine lv_icmp_ne (tgt := 19) hx hb dX1_isSupplying_5 (by decide) (fun c5 => ?_) (fun c5 => ?_)
  · rewrite [if_neg c5] at h
    exact J19 S h _ _ _ hP hS (lv_sub hl [] rfl)
  · rewrite [if_pos c5] at h
    refine lv_aload_n hx hb dX1_isSupplying_8 rfl (lv_at hl 0 rfl) ?_
    refine cgG hx hb hw1 hown hK hP (i := k) (by omega) 5 (by decide) (hts (.fieldLink RX1 27 "BackupPower$Generator" "onTest" "Z") (by decide +kernel)) dX1_isSupplying_9 ?_
    refine lv_if_ne (tgt := 19) hx hb dX1_isSupplying_12 (by decide) (fun c12 => ?_) (fun c12 => ?_)
    · rewrite [if_neg c12] at h
      exact J19 S h _ _ _ hP hS (lv_sub hl [] rfl)
    · rewrite [if_pos c12] at h
      refine lv_iconst (v := 1) hx hb dX1_isSupplying_15 (by decide) ?_
      refine lv_goto (tgt := 20) hx hb dX1_isSupplying_16 (by decide) ?_
      exact J20 S 1 isB_1 h _ _ _ hP hS (lv_sub hl [] rfl)

def f_X1_powerLeft_b20 (k : Nat) (S20 : CS) (s0_20 : Int32) : Int32 × CS := (s0_20, S20)
def f_X1_powerLeft_c1 (k : Nat) (p1 : Int32 × CS) : Int32 × CS := (if p1.1 = 0 then (f_X1_powerLeft_b20 k p1.2 0) else (f_X1_powerLeft_b20 k p1.2 ((p1.2.2.2.2 k 0) - (p1.2.2.2.2 k 8))))
def f_X1_powerLeft (k : Nat) (S : CS) : Int32 × CS := (f_X1_powerLeft_c1 k (f_X1_isSupplying k S))
set_option maxHeartbeats 4000000 in
set_option maxRecDepth 100000 in
theorem c_X1_powerLeft (l : Launch) (G : WG) (a : Nat → Nat) (ha : wInj 21 a) (k : Nat) (hk : k < 3) (S : CS) (sz : Nat) : gMi l yX1_powerLeft wsX1_powerLeft ({ frames := 1, cells := 0, slots := 0, locals := 20 }) G 21 a (CW G.2 a) [.ref (a (17 + k))] S sz (f_X1_powerLeft k S) := by
  unfold gMi
  refine Met.ofW (cc := cX1_powerLeft) (maxL := 1) (ret := (some .int)) (by decide) rfl ?_
  intro p e s m args below meth c s₁ B hml hv
  obtain ⟨rfl, rfl, hP, hK⟩ := hv
  have hx := B.exec
  have hb := B.bytes
  have hr := B.returns
  have hts := atoms_spec (ws := wsX1_powerLeft) B.pre
  have hown : s.vm.findClass RX1 = some m.cls := findClass_of_methodNamed B.named
  have hlocks := B.notSynchronized
  have hS : va_S (wA 21 a s.heap.size) s.heap s.heap [] := va_S.rf
  have hw1 : ∀ w ∈ wsX10, w.before ([.ref (a (17 + k))] : List Value).toArray s = true := fun w hw => hts w ((by decide +kernel : ∀ w ∈ wsX10, w ∈ wsX1_powerLeft) w hw)
  have hl := lv_entry ([.ref (a (17 + k))]) (n := 1) (Nat.le_of_ble_eq_true rfl)
  rw [lg_entry_eq]
  generalize (lg_sl ([.ref (a (17 + k))] : List Value) ++ List.replicate (1 - (lg_sl ([.ref (a (17 + k))] : List Value)).length) Slot.unset).toArray = ls at hl ⊢
  have hl : lv_has ls 1 [(0, .ref (a (17 + k)))] := hl
  generalize hF : f_X1_powerLeft k S = F
  have h : f_X1_powerLeft k S = F := hF
  clear hF
  show W p l e ({ frames := 1, cells := 0, slots := 0, locals := 20 } : Room) s m ([.ref (a (17 + k))] : List Value).toArray below meth c s.heap [] 0 0 (gQi below G (CW G.2 a) 21 a F ([.ref (a (17 + k))] : List Value).toArray s) (F0 m 0 ls [])
  have J20 : ∀ (S20 : CS) (s0_20 : Int32), f_X1_powerLeft_b20 k S20 s0_20 = F → ∀ (H : Heap) (locs : List Loc) (ls : Array Slot), wC G a S20 H → va_S (wA 21 a s.heap.size) s.heap H locs → lv_has ls 1 [] → W p l e ({ frames := 1, cells := 0, slots := 0, locals := 20 } : Room) s m ([.ref (a (17 + k))] : List Value).toArray below meth c H locs 0 0 (gQi below G (CW G.2 a) 21 a F ([.ref (a (17 + k))] : List Value).toArray s) (F0 m 20 ls [.int s0_20]) := by
    intro S20 s0_20 h H locs ls hP hS hl
    rewrite [f_X1_powerLeft_b20] at h
    exact gRi (wf := CW G.2 a) (S := S20) hx hb hr hlocks hP hS h dX1_powerLeft_20
  rewrite [f_X1_powerLeft] at h
  refine lv_aload_n hx hb dX1_powerLeft_0 rfl (lv_at hl 0 rfl) ?_
  refine gcVz (wf := CW G.2 a) (N := 21) (ad := a) (As := []) (rest := []) (S := S) ⟨hx, hb, hml, hown, hts⟩ hK hP hS (c_X1_isSupplying l G a ha k (by omega) S _) (cwV 0 hts gX1_powerLeft_X1_isSupplying rfl rfl rfl (by decide +kernel) ⟨Nat.le_of_ble_eq_true rfl, Nat.le_of_ble_eq_true rfl⟩) (crG hK hP (i := k) (by omega)) rfl hl.1 rfl (Nat.le_of_ble_eq_true rfl) dX1_powerLeft_1 ⟨Nat.le_of_ble_eq_true rfl, Nat.le_of_ble_eq_true rfl⟩ (fun p1 H locs ep1 hbp1 hP hS => ?_)
  rewrite [← ep1] at h
  rewrite [f_X1_powerLeft_c1] at h
  refine lv_if_eq (tgt := 19) hx hb dX1_powerLeft_4 (by decide) (fun c4 => ?_) (fun c4 => ?_)
  · rewrite [if_pos c4] at h
    refine lv_iconst (v := 0) hx hb dX1_powerLeft_19 (by decide) ?_
    exact J20 p1.2 0 h _ _ _ hP hS (lv_sub hl [] rfl)
  · rewrite [if_neg c4] at h
    refine lv_aload_n hx hb dX1_powerLeft_7 rfl (lv_at hl 0 rfl) ?_
    refine cgG hx hb hw1 hown hK hP (i := k) (by omega) 0 (by decide) (hts (.fieldLink RX1 15 "BackupPower$Generator" "power" "I") (by decide +kernel)) dX1_powerLeft_8 ?_
    refine lv_aload_n hx hb dX1_powerLeft_11 rfl (lv_at hl 0 rfl) ?_
    refine cgG hx hb hw1 hown hK hP (i := k) (by omega) 8 (by decide) (hts (.fieldLink RX1 35 "BackupPower$Generator" "given" "I") (by decide +kernel)) dX1_powerLeft_12 ?_
    refine lv_isub hx hb dX1_powerLeft_15 ?_
    refine lv_goto (tgt := 20) hx hb dX1_powerLeft_16 (by decide) ?_
    exact J20 p1.2 ((p1.2.2.2.2 k 0) - (p1.2.2.2.2 k 8)) h _ _ _ hP hS (lv_sub hl [] rfl)

def f_X1_stopFailing_b17 (k : Nat) (S17 : CS) : CS := (cuG (cuG S17 k 4 0) k 5 0)
def f_X1_stopFailing (k : Nat) (S : CS) : CS := (if (S.2.2.2 k 5) = 0 then (f_X1_stopFailing_b17 k S) else (f_X1_stopFailing_b17 k (cuG S k 14 ((S.2.2.2 k 14) + 1))))
set_option maxHeartbeats 4000000 in
set_option maxRecDepth 100000 in
theorem c_X1_stopFailing (l : Launch) (G : WG) (a : Nat → Nat) (ha : wInj 21 a) (k : Nat) (hk : k < 3) (S : CS) (sz : Nat) : gMv l yX1_stopFailing wsX1_stopFailing ({ frames := 0, cells := 0, slots := 0, locals := 0 }) G 21 a (CW G.2 a) [.ref (a (17 + k))] S sz (f_X1_stopFailing k S) := by
  unfold gMv
  refine Met.ofW (cc := cX1_stopFailing) (maxL := 1) (ret := none) (by decide) rfl ?_
  intro p e s m args below meth c s₁ B hml hv
  obtain ⟨rfl, rfl, hP, hK⟩ := hv
  have hx := B.exec
  have hb := B.bytes
  have hr := B.returns
  have hts := atoms_spec (ws := wsX1_stopFailing) B.pre
  have hown : s.vm.findClass RX1 = some m.cls := findClass_of_methodNamed B.named
  have hlocks := B.notSynchronized
  have hS : va_S (wA 21 a s.heap.size) s.heap s.heap [] := va_S.rf
  have hw1 : ∀ w ∈ wsX10, w.before ([.ref (a (17 + k))] : List Value).toArray s = true := fun w hw => hts w ((by decide +kernel : ∀ w ∈ wsX10, w ∈ wsX1_stopFailing) w hw)
  have hl := lv_entry ([.ref (a (17 + k))]) (n := 1) (Nat.le_of_ble_eq_true rfl)
  rw [lg_entry_eq]
  generalize (lg_sl ([.ref (a (17 + k))] : List Value) ++ List.replicate (1 - (lg_sl ([.ref (a (17 + k))] : List Value)).length) Slot.unset).toArray = ls at hl ⊢
  have hl : lv_has ls 1 [(0, .ref (a (17 + k)))] := hl
  generalize hF : f_X1_stopFailing k S = F
  have h : f_X1_stopFailing k S = F := hF
  clear hF
  show W p l e ({ frames := 0, cells := 0, slots := 0, locals := 0 } : Room) s m ([.ref (a (17 + k))] : List Value).toArray below meth c s.heap [] 0 0 (gQv below G (CW G.2 a) 21 a F ([.ref (a (17 + k))] : List Value).toArray s) (F0 m 0 ls [])
  have J17 : ∀ (S17 : CS), f_X1_stopFailing_b17 k S17 = F → ∀ (H : Heap) (locs : List Loc) (ls : Array Slot), wC G a S17 H → va_S (wA 21 a s.heap.size) s.heap H locs → lv_has ls 1 [(0, .ref (a (17 + k)))] → W p l e ({ frames := 0, cells := 0, slots := 0, locals := 0 } : Room) s m ([.ref (a (17 + k))] : List Value).toArray below meth c H locs 0 0 (gQv below G (CW G.2 a) 21 a F ([.ref (a (17 + k))] : List Value).toArray s) (F0 m 17 ls []) := by
    intro S17 h H locs ls hP hS hl
    rewrite [f_X1_stopFailing_b17] at h
    refine lv_aload_n hx hb dX1_stopFailing_17 rfl (lv_at hl 0 rfl) ?_
    refine lv_iconst (v := 0) hx hb dX1_stopFailing_18 (by decide) ?_
    refine cpG hx hb hw1 hown hK ha hP hS (i := k) (by omega) 4 (by decide) rfl okI (hts (.fieldLink RX1 9 "BackupPower$Generator" "state" "I") (by decide +kernel)) dX1_stopFailing_19 (fun H locs hP hS => ?_)
    refine lv_aload_n hx hb dX1_stopFailing_22 rfl (lv_at hl 0 rfl) ?_
    refine lv_iconst (v := 0) hx hb dX1_stopFailing_23 (by decide) ?_
    refine cpG hx hb hw1 hown hK ha hP hS (i := k) (by omega) 5 (by decide) rfl (okB isB_0) (hts (.fieldLink RX1 27 "BackupPower$Generator" "onTest" "Z") (by decide +kernel)) dX1_stopFailing_24 (fun H locs hP hS => ?_)
    exact gRv (wf := CW G.2 a) (S := (cuG (cuG S17 k 4 0) k 5 0)) hx hb hr hlocks hP hS h dX1_stopFailing_27
  rewrite [f_X1_stopFailing] at h
  refine lv_aload_n hx hb dX1_stopFailing_0 rfl (lv_at hl 0 rfl) ?_
  refine cgG hx hb hw1 hown hK hP (i := k) (by omega) 5 (by decide) (hts (.fieldLink RX1 27 "BackupPower$Generator" "onTest" "Z") (by decide +kernel)) dX1_stopFailing_1 ?_
  refine lv_if_eq (tgt := 17) hx hb dX1_stopFailing_4 (by decide) (fun c4 => ?_) (fun c4 => ?_)
  · rewrite [if_pos c4] at h
    exact J17 S h _ _ _ hP hS (lv_sub hl [0] rfl)
  · rewrite [if_neg c4] at h
    refine lv_aload_n hx hb dX1_stopFailing_7 rfl (lv_at hl 0 rfl) ?_
    refine lv_dup hx hb dX1_stopFailing_8 rfl ?_
    refine cgG hx hb hw1 hown hK hP (i := k) (by omega) 14 (by decide) (hts (.fieldLink RX1 65 "BackupPower$Generator" "testsFailed" "I") (by decide +kernel)) dX1_stopFailing_9 ?_
    refine lv_iconst (v := 1) hx hb dX1_stopFailing_12 (by decide) ?_
    refine lv_iadd hx hb dX1_stopFailing_13 ?_
    refine cpG hx hb hw1 hown hK ha hP hS (i := k) (by omega) 14 (by decide) rfl okI (hts (.fieldLink RX1 65 "BackupPower$Generator" "testsFailed" "I") (by decide +kernel)) dX1_stopFailing_14 (fun H locs hP hS => ?_)
    exact J17 (cuG S k 14 ((S.2.2.2 k 14) + 1)) h _ _ _ hP hS (lv_sub hl [0] rfl)

def f_X1_goOnStarting_b62 (k : Nat) (S62 : CS) : CS := S62
def f_X1_goOnStarting_c46 (k : Nat) (p46 : CS) : CS := (f_X1_goOnStarting_b62 k p46)
def f_X1_goOnStarting (k : Nat) (S : CS) : CS := (if ((cuG S k 6 ((S.2.2.2 k 6) - 1)).2.2.2 k 6) ≤ 0 then (if ((cuG S k 6 ((S.2.2.2 k 6) - 1)).2.2.2 k 9) ≤ 0 then (f_X1_goOnStarting_b62 k (cuG (cuG (cuG S k 6 ((S.2.2.2 k 6) - 1)) k 4 2) k 7 1)) else (f_X1_goOnStarting_c46 k (f_X1_stopFailing k (cuG (cuG (cuG S k 6 ((S.2.2.2 k 6) - 1)) k 9 (((cuG S k 6 ((S.2.2.2 k 6) - 1)).2.2.2 k 9) - 1)) k 10 (((cuG (cuG S k 6 ((S.2.2.2 k 6) - 1)) k 9 (((cuG S k 6 ((S.2.2.2 k 6) - 1)).2.2.2 k 9) - 1)).2.2.2 k 10) + 1))))) else (cuG S k 6 ((S.2.2.2 k 6) - 1)))
set_option maxHeartbeats 4000000 in
set_option maxRecDepth 100000 in
theorem c_X1_goOnStarting (l : Launch) (G : WG) (a : Nat → Nat) (ha : wInj 21 a) (k : Nat) (hk : k < 3) (S : CS) (sz : Nat) : gMv l yX1_goOnStarting wsX1_goOnStarting ({ frames := 1, cells := 0, slots := 0, locals := 20 }) G 21 a (CW G.2 a) [.ref (a (17 + k))] S sz (f_X1_goOnStarting k S) := by
  unfold gMv
  refine Met.ofW (cc := cX1_goOnStarting) (maxL := 1) (ret := none) (by decide) rfl ?_
  intro p e s m args below meth c s₁ B hml hv
  obtain ⟨rfl, rfl, hP, hK⟩ := hv
  have hx := B.exec
  have hb := B.bytes
  have hr := B.returns
  have hts := atoms_spec (ws := wsX1_goOnStarting) B.pre
  have hown : s.vm.findClass RX1 = some m.cls := findClass_of_methodNamed B.named
  have hlocks := B.notSynchronized
  have hS : va_S (wA 21 a s.heap.size) s.heap s.heap [] := va_S.rf
  have hw1 : ∀ w ∈ wsX10, w.before ([.ref (a (17 + k))] : List Value).toArray s = true := fun w hw => hts w ((by decide +kernel : ∀ w ∈ wsX10, w ∈ wsX1_goOnStarting) w hw)
  have hl := lv_entry ([.ref (a (17 + k))]) (n := 1) (Nat.le_of_ble_eq_true rfl)
  rw [lg_entry_eq]
  generalize (lg_sl ([.ref (a (17 + k))] : List Value) ++ List.replicate (1 - (lg_sl ([.ref (a (17 + k))] : List Value)).length) Slot.unset).toArray = ls at hl ⊢
  have hl : lv_has ls 1 [(0, .ref (a (17 + k)))] := hl
  generalize hF : f_X1_goOnStarting k S = F
  have h : f_X1_goOnStarting k S = F := hF
  clear hF
  show W p l e ({ frames := 1, cells := 0, slots := 0, locals := 20 } : Room) s m ([.ref (a (17 + k))] : List Value).toArray below meth c s.heap [] 0 0 (gQv below G (CW G.2 a) 21 a F ([.ref (a (17 + k))] : List Value).toArray s) (F0 m 0 ls [])
  have J62 : ∀ (S62 : CS), f_X1_goOnStarting_b62 k S62 = F → ∀ (H : Heap) (locs : List Loc) (ls : Array Slot), wC G a S62 H → va_S (wA 21 a s.heap.size) s.heap H locs → lv_has ls 1 [] → W p l e ({ frames := 1, cells := 0, slots := 0, locals := 20 } : Room) s m ([.ref (a (17 + k))] : List Value).toArray below meth c H locs 0 0 (gQv below G (CW G.2 a) 21 a F ([.ref (a (17 + k))] : List Value).toArray s) (F0 m 62 ls []) := by
    intro S62 h H locs ls hP hS hl
    rewrite [f_X1_goOnStarting_b62] at h
    exact gRv (wf := CW G.2 a) (S := S62) hx hb hr hlocks hP hS h dX1_goOnStarting_62
  rewrite [f_X1_goOnStarting] at h
  refine lv_aload_n hx hb dX1_goOnStarting_0 rfl (lv_at hl 0 rfl) ?_
  refine lv_dup hx hb dX1_goOnStarting_1 rfl ?_
  refine cgG hx hb hw1 hown hK hP (i := k) (by omega) 6 (by decide) (hts (.fieldLink RX1 38 "BackupPower$Generator" "minutesToGo" "I") (by decide +kernel)) dX1_goOnStarting_2 ?_
  refine lv_iconst (v := 1) hx hb dX1_goOnStarting_5 (by decide) ?_
  refine lv_isub hx hb dX1_goOnStarting_6 ?_
  refine cpG hx hb hw1 hown hK ha hP hS (i := k) (by omega) 6 (by decide) rfl okI (hts (.fieldLink RX1 38 "BackupPower$Generator" "minutesToGo" "I") (by decide +kernel)) dX1_goOnStarting_7 (fun H locs hP hS => ?_)
  refine lv_aload_n hx hb dX1_goOnStarting_10 rfl (lv_at hl 0 rfl) ?_
  refine cgG hx hb hw1 hown hK hP (i := k) (by omega) 6 (by decide) (hts (.fieldLink RX1 38 "BackupPower$Generator" "minutesToGo" "I") (by decide +kernel)) dX1_goOnStarting_11 ?_
  refine lv_if_le (tgt := 18) hx hb dX1_goOnStarting_14 (by decide) (fun c14 => ?_) (fun c14 => ?_)
  · rewrite [if_pos c14] at h
    refine lv_aload_n hx hb dX1_goOnStarting_18 rfl (lv_at hl 0 rfl) ?_
    refine cgG hx hb hw1 hown hK hP (i := k) (by omega) 9 (by decide) (hts (.fieldLink RX1 41 "BackupPower$Generator" "failuresToCome" "I") (by decide +kernel)) dX1_goOnStarting_19 ?_
    refine lv_if_le (tgt := 52) hx hb dX1_goOnStarting_22 (by decide) (fun c22 => ?_) (fun c22 => ?_)
    · rewrite [if_pos c22] at h
      refine lv_aload_n hx hb dX1_goOnStarting_52 rfl (lv_at hl 0 rfl) ?_
      refine lv_iconst (v := 2) hx hb dX1_goOnStarting_53 (by decide) ?_
      refine cpG hx hb hw1 hown hK ha hP hS (i := k) (by omega) 4 (by decide) rfl okI (hts (.fieldLink RX1 9 "BackupPower$Generator" "state" "I") (by decide +kernel)) dX1_goOnStarting_54 (fun H locs hP hS => ?_)
      refine lv_aload_n hx hb dX1_goOnStarting_57 rfl (lv_at hl 0 rfl) ?_
      refine lv_iconst (v := 1) hx hb dX1_goOnStarting_58 (by decide) ?_
      refine cpG hx hb hw1 hown hK ha hP hS (i := k) (by omega) 7 (by decide) rfl okI (hts (.fieldLink RX1 50 "BackupPower$Generator" "minutesRun" "I") (by decide +kernel)) dX1_goOnStarting_59 (fun H locs hP hS => ?_)
      exact J62 (cuG (cuG (cuG S k 6 ((S.2.2.2 k 6) - 1)) k 4 2) k 7 1) h _ _ _ hP hS (lv_sub hl [] rfl)
    · rewrite [if_neg c22] at h
      refine lv_aload_n hx hb dX1_goOnStarting_25 rfl (lv_at hl 0 rfl) ?_
      refine lv_dup hx hb dX1_goOnStarting_26 rfl ?_
      refine cgG hx hb hw1 hown hK hP (i := k) (by omega) 9 (by decide) (hts (.fieldLink RX1 41 "BackupPower$Generator" "failuresToCome" "I") (by decide +kernel)) dX1_goOnStarting_27 ?_
      refine lv_iconst (v := 1) hx hb dX1_goOnStarting_30 (by decide) ?_
      refine lv_isub hx hb dX1_goOnStarting_31 ?_
      refine cpG hx hb hw1 hown hK ha hP hS (i := k) (by omega) 9 (by decide) rfl okI (hts (.fieldLink RX1 41 "BackupPower$Generator" "failuresToCome" "I") (by decide +kernel)) dX1_goOnStarting_32 (fun H locs hP hS => ?_)
      refine lv_aload_n hx hb dX1_goOnStarting_35 rfl (lv_at hl 0 rfl) ?_
      refine lv_dup hx hb dX1_goOnStarting_36 rfl ?_
      refine cgG hx hb hw1 hown hK hP (i := k) (by omega) 10 (by decide) (hts (.fieldLink RX1 44 "BackupPower$Generator" "startsFailed" "I") (by decide +kernel)) dX1_goOnStarting_37 ?_
      refine lv_iconst (v := 1) hx hb dX1_goOnStarting_40 (by decide) ?_
      refine lv_iadd hx hb dX1_goOnStarting_41 ?_
      refine cpG hx hb hw1 hown hK ha hP hS (i := k) (by omega) 10 (by decide) rfl okI (hts (.fieldLink RX1 44 "BackupPower$Generator" "startsFailed" "I") (by decide +kernel)) dX1_goOnStarting_42 (fun H locs hP hS => ?_)
      refine lv_aload_n hx hb dX1_goOnStarting_45 rfl (lv_at hl 0 rfl) ?_
      refine gcVv (wf := CW G.2 a) (N := 21) (ad := a) (As := []) (rest := []) (S := cuG (cuG (cuG S k 6 ((S.2.2.2 k 6) - 1)) k 9 (((cuG S k 6 ((S.2.2.2 k 6) - 1)).2.2.2 k 9) - 1)) k 10 (((cuG (cuG S k 6 ((S.2.2.2 k 6) - 1)) k 9 (((cuG S k 6 ((S.2.2.2 k 6) - 1)).2.2.2 k 9) - 1)).2.2.2 k 10) + 1)) ⟨hx, hb, hml, hown, hts⟩ hK hP hS (c_X1_stopFailing l G a ha k (by omega) (cuG (cuG (cuG S k 6 ((S.2.2.2 k 6) - 1)) k 9 (((cuG S k 6 ((S.2.2.2 k 6) - 1)).2.2.2 k 9) - 1)) k 10 (((cuG (cuG S k 6 ((S.2.2.2 k 6) - 1)) k 9 (((cuG S k 6 ((S.2.2.2 k 6) - 1)).2.2.2 k 9) - 1)).2.2.2 k 10) + 1)) _) (cwV 0 hts gX1_goOnStarting_X1_stopFailing rfl rfl rfl (by decide +kernel) ⟨Nat.le_of_ble_eq_true rfl, Nat.le_of_ble_eq_true rfl⟩) (crG hK hP (i := k) (by omega)) rfl hl.1 rfl (Nat.le_of_ble_eq_true rfl) dX1_goOnStarting_46 ⟨Nat.le_of_ble_eq_true rfl, Nat.le_of_ble_eq_true rfl⟩ (fun p46 H locs ep46 hP hS => ?_)
      rewrite [← ep46] at h
      rewrite [f_X1_goOnStarting_c46] at h
      refine lv_goto (tgt := 62) hx hb dX1_goOnStarting_49 (by decide) ?_
      exact J62 p46 h _ _ _ hP hS (lv_sub hl [] rfl)
  · rewrite [if_neg c14] at h
    exact gRv (wf := CW G.2 a) (S := (cuG S k 6 ((S.2.2.2 k 6) - 1))) hx hb hr hlocks hP hS h dX1_goOnStarting_17

def f_X1_goOnRunning_b71 (k : Nat) (x1 : Int32) (S71 : CS) : CS := S71
def f_X1_goOnRunning (k : Nat) (x1 : Int32) (S : CS) : CS := (if x1 = 0 then (f_X1_goOnRunning_b71 k x1 (cuG S k 5 0)) else (if (S.2.2.2 k 5) = 0 then (f_X1_goOnRunning_b71 k x1 (cuG S k 4 0)) else (if (S.2.2.2 k 7) < (S.2.2.2 k 12) then (f_X1_goOnRunning_b71 k x1 (cuG S k 7 ((S.2.2.2 k 7) + 1))) else (f_X1_goOnRunning_b71 k x1 (cuG (cuG (cuG S k 4 0) k 5 0) k 13 (((cuG (cuG S k 4 0) k 5 0).2.2.2 k 13) + 1))))))
set_option maxHeartbeats 4000000 in
set_option maxRecDepth 100000 in
theorem c_X1_goOnRunning (l : Launch) (G : WG) (a : Nat → Nat) (ha : wInj 21 a) (k : Nat) (hk : k < 3) (x1 : Int32) (S : CS) (sz : Nat) : gMv l yX1_goOnRunning wsX1_goOnRunning ({ frames := 0, cells := 0, slots := 0, locals := 0 }) G 21 a (CW G.2 a) [.ref (a (17 + k)), .int x1] S sz (f_X1_goOnRunning k x1 S) := by
  unfold gMv
  refine Met.ofW (cc := cX1_goOnRunning) (maxL := 2) (ret := none) (by decide) rfl ?_
  intro p e s m args below meth c s₁ B hml hv
  obtain ⟨rfl, rfl, hP, hK⟩ := hv
  have hx := B.exec
  have hb := B.bytes
  have hr := B.returns
  have hts := atoms_spec (ws := wsX1_goOnRunning) B.pre
  have hown : s.vm.findClass RX1 = some m.cls := findClass_of_methodNamed B.named
  have hlocks := B.notSynchronized
  have hS : va_S (wA 21 a s.heap.size) s.heap s.heap [] := va_S.rf
  have hw1 : ∀ w ∈ wsX10, w.before ([.ref (a (17 + k)), .int x1] : List Value).toArray s = true := fun w hw => hts w ((by decide +kernel : ∀ w ∈ wsX10, w ∈ wsX1_goOnRunning) w hw)
  have hl := lv_entry ([.ref (a (17 + k)), .int x1]) (n := 2) (Nat.le_of_ble_eq_true rfl)
  rw [lg_entry_eq]
  generalize (lg_sl ([.ref (a (17 + k)), .int x1] : List Value) ++ List.replicate (2 - (lg_sl ([.ref (a (17 + k)), .int x1] : List Value)).length) Slot.unset).toArray = ls at hl ⊢
  have hl : lv_has ls 2 [(0, .ref (a (17 + k))), (1, .int x1)] := hl
  generalize hF : f_X1_goOnRunning k x1 S = F
  have h : f_X1_goOnRunning k x1 S = F := hF
  clear hF
  show W p l e ({ frames := 0, cells := 0, slots := 0, locals := 0 } : Room) s m ([.ref (a (17 + k)), .int x1] : List Value).toArray below meth c s.heap [] 0 0 (gQv below G (CW G.2 a) 21 a F ([.ref (a (17 + k)), .int x1] : List Value).toArray s) (F0 m 0 ls [])
  have J71 : ∀ (S71 : CS), f_X1_goOnRunning_b71 k x1 S71 = F → ∀ (H : Heap) (locs : List Loc) (ls : Array Slot), wC G a S71 H → va_S (wA 21 a s.heap.size) s.heap H locs → lv_has ls 2 [] → W p l e ({ frames := 0, cells := 0, slots := 0, locals := 0 } : Room) s m ([.ref (a (17 + k)), .int x1] : List Value).toArray below meth c H locs 0 0 (gQv below G (CW G.2 a) 21 a F ([.ref (a (17 + k)), .int x1] : List Value).toArray s) (F0 m 71 ls []) := by
    intro S71 h H locs ls hP hS hl
    rewrite [f_X1_goOnRunning_b71] at h
    exact gRv (wf := CW G.2 a) (S := S71) hx hb hr hlocks hP hS h dX1_goOnRunning_71
  rewrite [f_X1_goOnRunning] at h
  refine lv_iload_n hx hb dX1_goOnRunning_0 rfl (lv_at hl 1 rfl) ?_
  refine lv_if_ne (tgt := 12) hx hb dX1_goOnRunning_1 (by decide) (fun c1 => ?_) (fun c1 => ?_)
  · rewrite [if_neg c1] at h
    refine lv_aload_n hx hb dX1_goOnRunning_12 rfl (lv_at hl 0 rfl) ?_
    refine cgG hx hb hw1 hown hK hP (i := k) (by omega) 5 (by decide) (hts (.fieldLink RX1 27 "BackupPower$Generator" "onTest" "Z") (by decide +kernel)) dX1_goOnRunning_13 ?_
    refine lv_if_ne (tgt := 27) hx hb dX1_goOnRunning_16 (by decide) (fun c16 => ?_) (fun c16 => ?_)
    · rewrite [if_neg c16] at h
      refine lv_aload_n hx hb dX1_goOnRunning_27 rfl (lv_at hl 0 rfl) ?_
      refine cgG hx hb hw1 hown hK hP (i := k) (by omega) 7 (by decide) (hts (.fieldLink RX1 50 "BackupPower$Generator" "minutesRun" "I") (by decide +kernel)) dX1_goOnRunning_28 ?_
      refine lv_aload_n hx hb dX1_goOnRunning_31 rfl (lv_at hl 0 rfl) ?_
      refine cgG hx hb hw1 hown hK hP (i := k) (by omega) 12 (by decide) (hts (.fieldLink RX1 53 "BackupPower$Generator" "testMinutes" "I") (by decide +kernel)) dX1_goOnRunning_32 ?_
      refine lv_icmp_lt (tgt := 61) hx hb dX1_goOnRunning_35 (by decide) (fun c35 => ?_) (fun c35 => ?_)
      · rewrite [if_pos c35] at h
        refine lv_aload_n hx hb dX1_goOnRunning_61 rfl (lv_at hl 0 rfl) ?_
        refine lv_dup hx hb dX1_goOnRunning_62 rfl ?_
        refine cgG hx hb hw1 hown hK hP (i := k) (by omega) 7 (by decide) (hts (.fieldLink RX1 50 "BackupPower$Generator" "minutesRun" "I") (by decide +kernel)) dX1_goOnRunning_63 ?_
        refine lv_iconst (v := 1) hx hb dX1_goOnRunning_66 (by decide) ?_
        refine lv_iadd hx hb dX1_goOnRunning_67 ?_
        refine cpG hx hb hw1 hown hK ha hP hS (i := k) (by omega) 7 (by decide) rfl okI (hts (.fieldLink RX1 50 "BackupPower$Generator" "minutesRun" "I") (by decide +kernel)) dX1_goOnRunning_68 (fun H locs hP hS => ?_)
        exact J71 (cuG S k 7 ((S.2.2.2 k 7) + 1)) h _ _ _ hP hS (lv_sub hl [] rfl)
      · rewrite [if_neg c35] at h
        refine lv_aload_n hx hb dX1_goOnRunning_38 rfl (lv_at hl 0 rfl) ?_
        refine lv_iconst (v := 0) hx hb dX1_goOnRunning_39 (by decide) ?_
        refine cpG hx hb hw1 hown hK ha hP hS (i := k) (by omega) 4 (by decide) rfl okI (hts (.fieldLink RX1 9 "BackupPower$Generator" "state" "I") (by decide +kernel)) dX1_goOnRunning_40 (fun H locs hP hS => ?_)
        refine lv_aload_n hx hb dX1_goOnRunning_43 rfl (lv_at hl 0 rfl) ?_
        refine lv_iconst (v := 0) hx hb dX1_goOnRunning_44 (by decide) ?_
        refine cpG hx hb hw1 hown hK ha hP hS (i := k) (by omega) 5 (by decide) rfl (okB isB_0) (hts (.fieldLink RX1 27 "BackupPower$Generator" "onTest" "Z") (by decide +kernel)) dX1_goOnRunning_45 (fun H locs hP hS => ?_)
        refine lv_aload_n hx hb dX1_goOnRunning_48 rfl (lv_at hl 0 rfl) ?_
        refine lv_dup hx hb dX1_goOnRunning_49 rfl ?_
        refine cgG hx hb hw1 hown hK hP (i := k) (by omega) 13 (by decide) (hts (.fieldLink RX1 56 "BackupPower$Generator" "testsPassed" "I") (by decide +kernel)) dX1_goOnRunning_50 ?_
        refine lv_iconst (v := 1) hx hb dX1_goOnRunning_53 (by decide) ?_
        refine lv_iadd hx hb dX1_goOnRunning_54 ?_
        refine cpG hx hb hw1 hown hK ha hP hS (i := k) (by omega) 13 (by decide) rfl okI (hts (.fieldLink RX1 56 "BackupPower$Generator" "testsPassed" "I") (by decide +kernel)) dX1_goOnRunning_55 (fun H locs hP hS => ?_)
        refine lv_goto (tgt := 71) hx hb dX1_goOnRunning_58 (by decide) ?_
        exact J71 (cuG (cuG (cuG S k 4 0) k 5 0) k 13 (((cuG (cuG S k 4 0) k 5 0).2.2.2 k 13) + 1)) h _ _ _ hP hS (lv_sub hl [] rfl)
    · rewrite [if_pos c16] at h
      refine lv_aload_n hx hb dX1_goOnRunning_19 rfl (lv_at hl 0 rfl) ?_
      refine lv_iconst (v := 0) hx hb dX1_goOnRunning_20 (by decide) ?_
      refine cpG hx hb hw1 hown hK ha hP hS (i := k) (by omega) 4 (by decide) rfl okI (hts (.fieldLink RX1 9 "BackupPower$Generator" "state" "I") (by decide +kernel)) dX1_goOnRunning_21 (fun H locs hP hS => ?_)
      refine lv_goto (tgt := 71) hx hb dX1_goOnRunning_24 (by decide) ?_
      exact J71 (cuG S k 4 0) h _ _ _ hP hS (lv_sub hl [] rfl)
  · rewrite [if_pos c1] at h
    refine lv_aload_n hx hb dX1_goOnRunning_4 rfl (lv_at hl 0 rfl) ?_
    refine lv_iconst (v := 0) hx hb dX1_goOnRunning_5 (by decide) ?_
    refine cpG hx hb hw1 hown hK ha hP hS (i := k) (by omega) 5 (by decide) rfl (okB isB_0) (hts (.fieldLink RX1 27 "BackupPower$Generator" "onTest" "Z") (by decide +kernel)) dX1_goOnRunning_6 (fun H locs hP hS => ?_)
    refine lv_goto (tgt := 71) hx hb dX1_goOnRunning_9 (by decide) ?_
    exact J71 (cuG S k 5 0) h _ _ _ hP hS (lv_sub hl [] rfl)

def f_X1_burnFuel_b51 (k : Nat) (S51 : CS) : CS := S51
def f_X1_burnFuel_c48 (k : Nat) (p48 : CS) : CS := (f_X1_burnFuel_b51 k p48)
def f_X1_burnFuel (k : Nat) (S : CS) : CS := (if (S.2.2.2 k 4) = 2 then (if ((cuG S k 3 (if 0 < (S.2.2.2 k 3) - (if 1 < (((S.2.2.2 k 8) + 50) - 1) / 50 then (((S.2.2.2 k 8) + 50) - 1) / 50 else 1) then (S.2.2.2 k 3) - (if 1 < (((S.2.2.2 k 8) + 50) - 1) / 50 then (((S.2.2.2 k 8) + 50) - 1) / 50 else 1) else 0)).2.2.2 k 3) = 0 then (f_X1_burnFuel_c48 k (f_X1_stopFailing k (cuG S k 3 (if 0 < (S.2.2.2 k 3) - (if 1 < (((S.2.2.2 k 8) + 50) - 1) / 50 then (((S.2.2.2 k 8) + 50) - 1) / 50 else 1) then (S.2.2.2 k 3) - (if 1 < (((S.2.2.2 k 8) + 50) - 1) / 50 then (((S.2.2.2 k 8) + 50) - 1) / 50 else 1) else 0)))) else (f_X1_burnFuel_b51 k (cuG S k 3 (if 0 < (S.2.2.2 k 3) - (if 1 < (((S.2.2.2 k 8) + 50) - 1) / 50 then (((S.2.2.2 k 8) + 50) - 1) / 50 else 1) then (S.2.2.2 k 3) - (if 1 < (((S.2.2.2 k 8) + 50) - 1) / 50 then (((S.2.2.2 k 8) + 50) - 1) / 50 else 1) else 0)))) else S)
set_option maxHeartbeats 4000000 in
set_option maxRecDepth 100000 in
theorem c_X1_burnFuel (l : Launch) (G : WG) (a : Nat → Nat) (ha : wInj 21 a) (k : Nat) (hk : k < 3) (S : CS) (sz : Nat) : gMv l yX1_burnFuel wsX1_burnFuel ({ frames := 1, cells := 0, slots := 0, locals := 21 }) G 21 a (CW G.2 a) [.ref (a (17 + k))] S sz (f_X1_burnFuel k S) := by
  unfold gMv
  refine Met.ofW (cc := cX1_burnFuel) (maxL := 2) (ret := none) (by decide) rfl ?_
  intro p e s m args below meth c s₁ B hml hv
  obtain ⟨rfl, rfl, hP, hK⟩ := hv
  have hx := B.exec
  have hb := B.bytes
  have hr := B.returns
  have hts := atoms_spec (ws := wsX1_burnFuel) B.pre
  have hown : s.vm.findClass RX1 = some m.cls := findClass_of_methodNamed B.named
  have hlocks := B.notSynchronized
  have hS : va_S (wA 21 a s.heap.size) s.heap s.heap [] := va_S.rf
  have hw1 : ∀ w ∈ wsX10, w.before ([.ref (a (17 + k))] : List Value).toArray s = true := fun w hw => hts w ((by decide +kernel : ∀ w ∈ wsX10, w ∈ wsX1_burnFuel) w hw)
  have hl := lv_entry ([.ref (a (17 + k))]) (n := 2) (Nat.le_of_ble_eq_true rfl)
  rw [lg_entry_eq]
  generalize (lg_sl ([.ref (a (17 + k))] : List Value) ++ List.replicate (2 - (lg_sl ([.ref (a (17 + k))] : List Value)).length) Slot.unset).toArray = ls at hl ⊢
  have hl : lv_has ls 2 [(0, .ref (a (17 + k)))] := hl
  generalize hF : f_X1_burnFuel k S = F
  have h : f_X1_burnFuel k S = F := hF
  clear hF
  show W p l e ({ frames := 1, cells := 0, slots := 0, locals := 21 } : Room) s m ([.ref (a (17 + k))] : List Value).toArray below meth c s.heap [] 0 0 (gQv below G (CW G.2 a) 21 a F ([.ref (a (17 + k))] : List Value).toArray s) (F0 m 0 ls [])
  have J51 : ∀ (S51 : CS), f_X1_burnFuel_b51 k S51 = F → ∀ (H : Heap) (locs : List Loc) (ls : Array Slot), wC G a S51 H → va_S (wA 21 a s.heap.size) s.heap H locs → lv_has ls 2 [] → W p l e ({ frames := 1, cells := 0, slots := 0, locals := 21 } : Room) s m ([.ref (a (17 + k))] : List Value).toArray below meth c H locs 0 0 (gQv below G (CW G.2 a) 21 a F ([.ref (a (17 + k))] : List Value).toArray s) (F0 m 51 ls []) := by
    intro S51 h H locs ls hP hS hl
    rewrite [f_X1_burnFuel_b51] at h
    exact gRv (wf := CW G.2 a) (S := S51) hx hb hr hlocks hP hS h dX1_burnFuel_51
  rewrite [f_X1_burnFuel] at h
  refine lv_aload_n hx hb dX1_burnFuel_0 rfl (lv_at hl 0 rfl) ?_
  refine cgG hx hb hw1 hown hK hP (i := k) (by omega) 4 (by decide) (hts (.fieldLink RX1 9 "BackupPower$Generator" "state" "I") (by decide +kernel)) dX1_burnFuel_1 ?_
  refine lv_iconst (v := 2) hx hb dX1_burnFuel_4 (by decide) ?_
  refine lv_icmp_eq (tgt := 9) hx hb dX1_burnFuel_5 (by decide) (fun c5 => ?_) (fun c5 => ?_)
  · rewrite [if_pos c5] at h
    refine lv_iconst (v := 1) hx hb dX1_burnFuel_9 (by decide) ?_
    refine lv_aload_n hx hb dX1_burnFuel_10 rfl (lv_at hl 0 rfl) ?_
    refine cgG hx hb hw1 hown hK hP (i := k) (by omega) 8 (by decide) (hts (.fieldLink RX1 35 "BackupPower$Generator" "given" "I") (by decide +kernel)) dX1_burnFuel_11 ?_
    refine lv_bipush (v := 50) hx hb dX1_burnFuel_14 (by decide) ?_
    refine lv_iadd hx hb dX1_burnFuel_16 ?_
    refine lv_iconst (v := 1) hx hb dX1_burnFuel_17 (by decide) ?_
    refine lv_isub hx hb dX1_burnFuel_18 ?_
    refine lv_bipush (v := 50) hx hb dX1_burnFuel_19 (by decide) ?_
    refine lv_idiv hx hb dX1_burnFuel_21 (by decide) ?_
    refine va_mmax hx hb (hml.trans hl.1.symm) hown (hts (.methodLink RX1 59 Lib.Math.max.name) (by decide +kernel)) (hts (.static Lib.Math.max.name) (by decide +kernel)) (hts (.initialized "java/lang/Math") (by decide +kernel)) (hts (.code Lib.Math.max.name Lib.Math.max.code 2 (some .int)) (by decide +kernel)) (Nat.le_of_ble_eq_true rfl) (Nat.le_of_ble_eq_true rfl) (Nat.le_of_ble_eq_true rfl) (Nat.le_of_ble_eq_true rfl) dX1_burnFuel_22 ?_
    refine lv_istore_n (lv' := [(1, .int (if 1 < (((S.2.2.2 k 8) + 50) - 1) / 50 then (((S.2.2.2 k 8) + 50) - 1) / 50 else 1)), (0, .ref (a (17 + k)))]) hx hb dX1_burnFuel_25 rfl hl (by decide) rfl (fun ls hl => ?_)
    refine lv_aload_n hx hb dX1_burnFuel_26 rfl (lv_at hl 1 rfl) ?_
    refine lv_iconst (v := 0) hx hb dX1_burnFuel_27 (by decide) ?_
    refine lv_aload_n hx hb dX1_burnFuel_28 rfl (lv_at hl 1 rfl) ?_
    refine cgG hx hb hw1 hown hK hP (i := k) (by omega) 3 (by decide) (hts (.fieldLink RX1 24 "BackupPower$Generator" "fuel" "I") (by decide +kernel)) dX1_burnFuel_29 ?_
    refine lv_iload_n hx hb dX1_burnFuel_32 rfl (lv_at hl 0 rfl) ?_
    refine lv_isub hx hb dX1_burnFuel_33 ?_
    refine va_mmax hx hb (hml.trans hl.1.symm) hown (hts (.methodLink RX1 59 Lib.Math.max.name) (by decide +kernel)) (hts (.static Lib.Math.max.name) (by decide +kernel)) (hts (.initialized "java/lang/Math") (by decide +kernel)) (hts (.code Lib.Math.max.name Lib.Math.max.code 2 (some .int)) (by decide +kernel)) (Nat.le_of_ble_eq_true rfl) (Nat.le_of_ble_eq_true rfl) (Nat.le_of_ble_eq_true rfl) (Nat.le_of_ble_eq_true rfl) dX1_burnFuel_34 ?_
    refine cpG hx hb hw1 hown hK ha hP hS (i := k) (by omega) 3 (by decide) rfl okI (hts (.fieldLink RX1 24 "BackupPower$Generator" "fuel" "I") (by decide +kernel)) dX1_burnFuel_37 (fun H locs hP hS => ?_)
    refine lv_aload_n hx hb dX1_burnFuel_40 rfl (lv_at hl 1 rfl) ?_
    refine cgG hx hb hw1 hown hK hP (i := k) (by omega) 3 (by decide) (hts (.fieldLink RX1 24 "BackupPower$Generator" "fuel" "I") (by decide +kernel)) dX1_burnFuel_41 ?_
    refine lv_if_ne (tgt := 51) hx hb dX1_burnFuel_44 (by decide) (fun c44 => ?_) (fun c44 => ?_)
    · rewrite [if_neg c44] at h
      exact J51 (cuG S k 3 (if 0 < (S.2.2.2 k 3) - (if 1 < (((S.2.2.2 k 8) + 50) - 1) / 50 then (((S.2.2.2 k 8) + 50) - 1) / 50 else 1) then (S.2.2.2 k 3) - (if 1 < (((S.2.2.2 k 8) + 50) - 1) / 50 then (((S.2.2.2 k 8) + 50) - 1) / 50 else 1) else 0)) h _ _ _ hP hS (lv_sub hl [] rfl)
    · rewrite [if_pos c44] at h
      refine lv_aload_n hx hb dX1_burnFuel_47 rfl (lv_at hl 1 rfl) ?_
      refine gcVv (wf := CW G.2 a) (N := 21) (ad := a) (As := []) (rest := []) (S := cuG S k 3 (if 0 < (S.2.2.2 k 3) - (if 1 < (((S.2.2.2 k 8) + 50) - 1) / 50 then (((S.2.2.2 k 8) + 50) - 1) / 50 else 1) then (S.2.2.2 k 3) - (if 1 < (((S.2.2.2 k 8) + 50) - 1) / 50 then (((S.2.2.2 k 8) + 50) - 1) / 50 else 1) else 0)) ⟨hx, hb, hml, hown, hts⟩ hK hP hS (c_X1_stopFailing l G a ha k (by omega) (cuG S k 3 (if 0 < (S.2.2.2 k 3) - (if 1 < (((S.2.2.2 k 8) + 50) - 1) / 50 then (((S.2.2.2 k 8) + 50) - 1) / 50 else 1) then (S.2.2.2 k 3) - (if 1 < (((S.2.2.2 k 8) + 50) - 1) / 50 then (((S.2.2.2 k 8) + 50) - 1) / 50 else 1) else 0)) _) (cwV 0 hts gX1_burnFuel_X1_stopFailing rfl rfl rfl (by decide +kernel) ⟨Nat.le_of_ble_eq_true rfl, Nat.le_of_ble_eq_true rfl⟩) (crG hK hP (i := k) (by omega)) rfl hl.1 rfl (Nat.le_of_ble_eq_true rfl) dX1_burnFuel_48 ⟨Nat.le_of_ble_eq_true rfl, Nat.le_of_ble_eq_true rfl⟩ (fun p48 H locs ep48 hP hS => ?_)
      rewrite [← ep48] at h
      rewrite [f_X1_burnFuel_c48] at h
      exact J51 p48 h _ _ _ hP hS (lv_sub hl [] rfl)
  · rewrite [if_neg c5] at h
    exact gRv (wf := CW G.2 a) (S := S) hx hb hr hlocks hP hS h dX1_burnFuel_8

def f_X2_install (k : Nat) (x1 : Int32) (x2 : Int32) (x3 : Int32) (S : CS) : CS := (cuL (cuL (cuL S k 1 x1) k 2 x2) k 3 x3)
set_option maxHeartbeats 4000000 in
set_option maxRecDepth 100000 in
theorem c_X2_install (l : Launch) (G : WG) (a : Nat → Nat) (ha : wInj 21 a) (k : Nat) (hk : k < 10) (x1 : Int32) (x2 : Int32) (x3 : Int32) (S : CS) (sz : Nat) : gMv l yX2_install wsX2_install ({ frames := 0, cells := 0, slots := 0, locals := 0 }) G 21 a (CW G.2 a) [.ref (a (4 + k)), .int x1, .int x2, .int x3] S sz (f_X2_install k x1 x2 x3 S) := by
  unfold gMv
  refine Met.ofW (cc := cX2_install) (maxL := 4) (ret := none) (by decide) rfl ?_
  intro p e s m args below meth c s₁ B hml hv
  obtain ⟨rfl, rfl, hP, hK⟩ := hv
  have hx := B.exec
  have hb := B.bytes
  have hr := B.returns
  have hts := atoms_spec (ws := wsX2_install) B.pre
  have hown : s.vm.findClass RX2 = some m.cls := findClass_of_methodNamed B.named
  have hlocks := B.notSynchronized
  have hS : va_S (wA 21 a s.heap.size) s.heap s.heap [] := va_S.rf
  have hw2 : ∀ w ∈ wsX20, w.before ([.ref (a (4 + k)), .int x1, .int x2, .int x3] : List Value).toArray s = true := fun w hw => hts w ((by decide +kernel : ∀ w ∈ wsX20, w ∈ wsX2_install) w hw)
  have hl := lv_entry ([.ref (a (4 + k)), .int x1, .int x2, .int x3]) (n := 4) (Nat.le_of_ble_eq_true rfl)
  rw [lg_entry_eq]
  generalize (lg_sl ([.ref (a (4 + k)), .int x1, .int x2, .int x3] : List Value) ++ List.replicate (4 - (lg_sl ([.ref (a (4 + k)), .int x1, .int x2, .int x3] : List Value)).length) Slot.unset).toArray = ls at hl ⊢
  have hl : lv_has ls 4 [(0, .ref (a (4 + k))), (1, .int x1), (2, .int x2), (3, .int x3)] := hl
  generalize hF : f_X2_install k x1 x2 x3 S = F
  have h : f_X2_install k x1 x2 x3 S = F := hF
  clear hF
  show W p l e ({ frames := 0, cells := 0, slots := 0, locals := 0 } : Room) s m ([.ref (a (4 + k)), .int x1, .int x2, .int x3] : List Value).toArray below meth c s.heap [] 0 0 (gQv below G (CW G.2 a) 21 a F ([.ref (a (4 + k)), .int x1, .int x2, .int x3] : List Value).toArray s) (F0 m 0 ls [])
  rewrite [f_X2_install] at h
  refine lv_aload_n hx hb dX2_install_0 rfl (lv_at hl 0 rfl) ?_
  refine lv_iload_n hx hb dX2_install_1 rfl (lv_at hl 1 rfl) ?_
  refine cpL hx hb hw2 hown hK ha hP hS (i := k) (by omega) 1 (by decide) rfl okI (hts (.fieldLink RX2 18 "BackupPower$Load" "rank" "I") (by decide +kernel)) dX2_install_2 (fun H locs hP hS => ?_)
  refine lv_aload_n hx hb dX2_install_5 rfl (lv_at hl 0 rfl) ?_
  refine lv_iload_n hx hb dX2_install_6 rfl (lv_at hl 2 rfl) ?_
  refine cpL hx hb hw2 hown hK ha hP hS (i := k) (by omega) 2 (by decide) rfl okI (hts (.fieldLink RX2 21 "BackupPower$Load" "power" "I") (by decide +kernel)) dX2_install_7 (fun H locs hP hS => ?_)
  refine lv_aload_n hx hb dX2_install_10 rfl (lv_at hl 0 rfl) ?_
  refine lv_iload_n hx hb dX2_install_11 rfl (lv_at hl 3 rfl) ?_
  refine cpL hx hb hw2 hown hK ha hP hS (i := k) (by omega) 3 (by decide) rfl okI (hts (.fieldLink RX2 9 "BackupPower$Load" "state" "I") (by decide +kernel)) dX2_install_12 (fun H locs hP hS => ?_)
  exact gRv (wf := CW G.2 a) (S := (cuL (cuL (cuL S k 1 x1) k 2 x2) k 3 x3)) hx hb hr hlocks hP hS h dX2_install_15

def f_X2_isShedAheadOf_b27 (k : Nat) (x1 : Nat) (S27 : CS) (s0_27 : Int32) : Int32 × CS := (s0_27, S27)
def f_X2_isShedAheadOf_b55 (k : Nat) (x1 : Nat) (S55 : CS) (s0_55 : Int32) : Int32 × CS := (s0_55, S55)
def f_X2_isShedAheadOf_b72 (k : Nat) (x1 : Nat) (S72 : CS) (s0_72 : Int32) : Int32 × CS := (s0_72, S72)
def f_X2_isShedAheadOf (k : Nat) (x1 : Nat) (S : CS) : Int32 × CS := (if (S.2.1 k 1) = (S.2.1 x1 1) then (if (S.2.1 k 2) = (S.2.1 x1 2) then (if (S.2.1 k 0) ≤ (S.2.1 x1 0) then (f_X2_isShedAheadOf_b72 k x1 S 0) else (f_X2_isShedAheadOf_b72 k x1 S 1)) else (if (S.2.1 k 2) ≤ (S.2.1 x1 2) then (f_X2_isShedAheadOf_b55 k x1 S 0) else (f_X2_isShedAheadOf_b55 k x1 S 1))) else (if (S.2.1 k 1) ≤ (S.2.1 x1 1) then (f_X2_isShedAheadOf_b27 k x1 S 0) else (f_X2_isShedAheadOf_b27 k x1 S 1)))
set_option maxHeartbeats 4000000 in
set_option maxRecDepth 100000 in
theorem c_X2_isShedAheadOf (l : Launch) (G : WG) (a : Nat → Nat) (ha : wInj 21 a) (k : Nat) (hk : k < 10) (x1 : Nat) (hx1 : x1 < 10) (S : CS) (sz : Nat) : gMz l yX2_isShedAheadOf wsX2_isShedAheadOf ({ frames := 0, cells := 0, slots := 0, locals := 0 }) G 21 a (CW G.2 a) [.ref (a (4 + k)), .ref (a (4 + x1))] S sz (f_X2_isShedAheadOf k x1 S) := by
  unfold gMz
  refine Met.ofW (cc := cX2_isShedAheadOf) (maxL := 2) (ret := (some .boolean)) (by decide) rfl ?_
  intro p e s m args below meth c s₁ B hml hv
  obtain ⟨rfl, rfl, hP, hK⟩ := hv
  have hx := B.exec
  have hb := B.bytes
  have hr := B.returns
  have hts := atoms_spec (ws := wsX2_isShedAheadOf) B.pre
  have hown : s.vm.findClass RX2 = some m.cls := findClass_of_methodNamed B.named
  have hlocks := B.notSynchronized
  have hS : va_S (wA 21 a s.heap.size) s.heap s.heap [] := va_S.rf
  have hw2 : ∀ w ∈ wsX20, w.before ([.ref (a (4 + k)), .ref (a (4 + x1))] : List Value).toArray s = true := fun w hw => hts w ((by decide +kernel : ∀ w ∈ wsX20, w ∈ wsX2_isShedAheadOf) w hw)
  have hl := lv_entry ([.ref (a (4 + k)), .ref (a (4 + x1))]) (n := 2) (Nat.le_of_ble_eq_true rfl)
  rw [lg_entry_eq]
  generalize (lg_sl ([.ref (a (4 + k)), .ref (a (4 + x1))] : List Value) ++ List.replicate (2 - (lg_sl ([.ref (a (4 + k)), .ref (a (4 + x1))] : List Value)).length) Slot.unset).toArray = ls at hl ⊢
  have hl : lv_has ls 2 [(0, .ref (a (4 + k))), (1, .ref (a (4 + x1)))] := hl
  generalize hF : f_X2_isShedAheadOf k x1 S = F
  have h : f_X2_isShedAheadOf k x1 S = F := hF
  clear hF
  show W p l e ({ frames := 0, cells := 0, slots := 0, locals := 0 } : Room) s m ([.ref (a (4 + k)), .ref (a (4 + x1))] : List Value).toArray below meth c s.heap [] 0 0 (gQz below G (CW G.2 a) 21 a F ([.ref (a (4 + k)), .ref (a (4 + x1))] : List Value).toArray s) (F0 m 0 ls [])
  have J27 : ∀ (S27 : CS) (s0_27 : Int32), (isB s0_27) → f_X2_isShedAheadOf_b27 k x1 S27 s0_27 = F → ∀ (H : Heap) (locs : List Loc) (ls : Array Slot), wC G a S27 H → va_S (wA 21 a s.heap.size) s.heap H locs → lv_has ls 2 [] → W p l e ({ frames := 0, cells := 0, slots := 0, locals := 0 } : Room) s m ([.ref (a (4 + k)), .ref (a (4 + x1))] : List Value).toArray below meth c H locs 0 0 (gQz below G (CW G.2 a) 21 a F ([.ref (a (4 + k)), .ref (a (4 + x1))] : List Value).toArray s) (F0 m 27 ls [.int s0_27]) := by
    intro S27 s0_27 hbs0_27 h H locs ls hP hS hl
    rewrite [f_X2_isShedAheadOf_b27] at h
    exact gRz (wf := CW G.2 a) (S := S27) hx hb hr hlocks hbs0_27 hP hS h dX2_isShedAheadOf_27
  have J55 : ∀ (S55 : CS) (s0_55 : Int32), (isB s0_55) → f_X2_isShedAheadOf_b55 k x1 S55 s0_55 = F → ∀ (H : Heap) (locs : List Loc) (ls : Array Slot), wC G a S55 H → va_S (wA 21 a s.heap.size) s.heap H locs → lv_has ls 2 [] → W p l e ({ frames := 0, cells := 0, slots := 0, locals := 0 } : Room) s m ([.ref (a (4 + k)), .ref (a (4 + x1))] : List Value).toArray below meth c H locs 0 0 (gQz below G (CW G.2 a) 21 a F ([.ref (a (4 + k)), .ref (a (4 + x1))] : List Value).toArray s) (F0 m 55 ls [.int s0_55]) := by
    intro S55 s0_55 hbs0_55 h H locs ls hP hS hl
    rewrite [f_X2_isShedAheadOf_b55] at h
    exact gRz (wf := CW G.2 a) (S := S55) hx hb hr hlocks hbs0_55 hP hS h dX2_isShedAheadOf_55
  have J72 : ∀ (S72 : CS) (s0_72 : Int32), (isB s0_72) → f_X2_isShedAheadOf_b72 k x1 S72 s0_72 = F → ∀ (H : Heap) (locs : List Loc) (ls : Array Slot), wC G a S72 H → va_S (wA 21 a s.heap.size) s.heap H locs → lv_has ls 2 [] → W p l e ({ frames := 0, cells := 0, slots := 0, locals := 0 } : Room) s m ([.ref (a (4 + k)), .ref (a (4 + x1))] : List Value).toArray below meth c H locs 0 0 (gQz below G (CW G.2 a) 21 a F ([.ref (a (4 + k)), .ref (a (4 + x1))] : List Value).toArray s) (F0 m 72 ls [.int s0_72]) := by
    intro S72 s0_72 hbs0_72 h H locs ls hP hS hl
    rewrite [f_X2_isShedAheadOf_b72] at h
    exact gRz (wf := CW G.2 a) (S := S72) hx hb hr hlocks hbs0_72 hP hS h dX2_isShedAheadOf_72
  rewrite [f_X2_isShedAheadOf] at h
  refine lv_aload_n hx hb dX2_isShedAheadOf_0 rfl (lv_at hl 0 rfl) ?_
  refine cgL hx hb hw2 hown hK hP (i := k) (by omega) 1 (by decide) (hts (.fieldLink RX2 18 "BackupPower$Load" "rank" "I") (by decide +kernel)) dX2_isShedAheadOf_1 ?_
  refine lv_aload_n hx hb dX2_isShedAheadOf_4 rfl (lv_at hl 1 rfl) ?_
  refine cgL hx hb hw2 hown hK hP (i := x1) (by omega) 1 (by decide) (hts (.fieldLink RX2 18 "BackupPower$Load" "rank" "I") (by decide +kernel)) dX2_isShedAheadOf_5 ?_
  refine lv_icmp_eq (tgt := 28) hx hb dX2_isShedAheadOf_8 (by decide) (fun c8 => ?_) (fun c8 => ?_)
  · rewrite [if_pos c8] at h
    refine lv_aload_n hx hb dX2_isShedAheadOf_28 rfl (lv_at hl 0 rfl) ?_
    refine cgL hx hb hw2 hown hK hP (i := k) (by omega) 2 (by decide) (hts (.fieldLink RX2 21 "BackupPower$Load" "power" "I") (by decide +kernel)) dX2_isShedAheadOf_29 ?_
    refine lv_aload_n hx hb dX2_isShedAheadOf_32 rfl (lv_at hl 1 rfl) ?_
    refine cgL hx hb hw2 hown hK hP (i := x1) (by omega) 2 (by decide) (hts (.fieldLink RX2 21 "BackupPower$Load" "power" "I") (by decide +kernel)) dX2_isShedAheadOf_33 ?_
    refine lv_icmp_eq (tgt := 56) hx hb dX2_isShedAheadOf_36 (by decide) (fun c36 => ?_) (fun c36 => ?_)
    · rewrite [if_pos c36] at h
      refine lv_aload_n hx hb dX2_isShedAheadOf_56 rfl (lv_at hl 0 rfl) ?_
      refine cgL hx hb hw2 hown hK hP (i := k) (by omega) 0 (by decide) (hts (.fieldLink RX2 15 "BackupPower$Load" "number" "I") (by decide +kernel)) dX2_isShedAheadOf_57 ?_
      refine lv_aload_n hx hb dX2_isShedAheadOf_60 rfl (lv_at hl 1 rfl) ?_
      refine cgL hx hb hw2 hown hK hP (i := x1) (by omega) 0 (by decide) (hts (.fieldLink RX2 15 "BackupPower$Load" "number" "I") (by decide +kernel)) dX2_isShedAheadOf_61 ?_
      refine lv_icmp_le (tgt := 71) hx hb dX2_isShedAheadOf_64 (by decide) (fun c64 => ?_) (fun c64 => ?_)
      · rewrite [if_pos c64] at h
        refine lv_iconst (v := 0) hx hb dX2_isShedAheadOf_71 (by decide) ?_
        exact J72 S 0 isB_0 h _ _ _ hP hS (lv_sub hl [] rfl)
      · rewrite [if_neg c64] at h
        refine lv_iconst (v := 1) hx hb dX2_isShedAheadOf_67 (by decide) ?_
        refine lv_goto (tgt := 72) hx hb dX2_isShedAheadOf_68 (by decide) ?_
        exact J72 S 1 isB_1 h _ _ _ hP hS (lv_sub hl [] rfl)
    · rewrite [if_neg c36] at h
      refine lv_aload_n hx hb dX2_isShedAheadOf_39 rfl (lv_at hl 0 rfl) ?_
      refine cgL hx hb hw2 hown hK hP (i := k) (by omega) 2 (by decide) (hts (.fieldLink RX2 21 "BackupPower$Load" "power" "I") (by decide +kernel)) dX2_isShedAheadOf_40 ?_
      refine lv_aload_n hx hb dX2_isShedAheadOf_43 rfl (lv_at hl 1 rfl) ?_
      refine cgL hx hb hw2 hown hK hP (i := x1) (by omega) 2 (by decide) (hts (.fieldLink RX2 21 "BackupPower$Load" "power" "I") (by decide +kernel)) dX2_isShedAheadOf_44 ?_
      refine lv_icmp_le (tgt := 54) hx hb dX2_isShedAheadOf_47 (by decide) (fun c47 => ?_) (fun c47 => ?_)
      · rewrite [if_pos c47] at h
        refine lv_iconst (v := 0) hx hb dX2_isShedAheadOf_54 (by decide) ?_
        exact J55 S 0 isB_0 h _ _ _ hP hS (lv_sub hl [] rfl)
      · rewrite [if_neg c47] at h
        refine lv_iconst (v := 1) hx hb dX2_isShedAheadOf_50 (by decide) ?_
        refine lv_goto (tgt := 55) hx hb dX2_isShedAheadOf_51 (by decide) ?_
        exact J55 S 1 isB_1 h _ _ _ hP hS (lv_sub hl [] rfl)
  · rewrite [if_neg c8] at h
    refine lv_aload_n hx hb dX2_isShedAheadOf_11 rfl (lv_at hl 0 rfl) ?_
    refine cgL hx hb hw2 hown hK hP (i := k) (by omega) 1 (by decide) (hts (.fieldLink RX2 18 "BackupPower$Load" "rank" "I") (by decide +kernel)) dX2_isShedAheadOf_12 ?_
    refine lv_aload_n hx hb dX2_isShedAheadOf_15 rfl (lv_at hl 1 rfl) ?_
    refine cgL hx hb hw2 hown hK hP (i := x1) (by omega) 1 (by decide) (hts (.fieldLink RX2 18 "BackupPower$Load" "rank" "I") (by decide +kernel)) dX2_isShedAheadOf_16 ?_
    refine lv_icmp_le (tgt := 26) hx hb dX2_isShedAheadOf_19 (by decide) (fun c19 => ?_) (fun c19 => ?_)
    · rewrite [if_pos c19] at h
      refine lv_iconst (v := 0) hx hb dX2_isShedAheadOf_26 (by decide) ?_
      exact J27 S 0 isB_0 h _ _ _ hP hS (lv_sub hl [] rfl)
    · rewrite [if_neg c19] at h
      refine lv_iconst (v := 1) hx hb dX2_isShedAheadOf_22 (by decide) ?_
      refine lv_goto (tgt := 27) hx hb dX2_isShedAheadOf_23 (by decide) ?_
      exact J27 S 1 isB_1 h _ _ _ hP hS (lv_sub hl [] rfl)

def f_X2_goesAheadOf_b21 (k : Nat) (x1 : Nat) (S21 : CS) (s0_21 : Int32) : Int32 × CS := (s0_21, S21)
def f_X2_goesAheadOf_c18 (k : Nat) (x1 : Nat) (p18 : Int32 × CS) : Int32 × CS := (f_X2_goesAheadOf_b21 k x1 p18.2 p18.1)
def f_X2_goesAheadOf_c10 (k : Nat) (x1 : Nat) (p10 : Int32 × CS) : Int32 × CS := (f_X2_goesAheadOf_b21 k x1 p10.2 p10.1)
def f_X2_goesAheadOf (k : Nat) (x1 : Nat) (S : CS) : Int32 × CS := (if (S.2.1 k 3) = 1 then (f_X2_goesAheadOf_c10 k x1 (f_X2_isShedAheadOf k x1 S)) else (f_X2_goesAheadOf_c18 k x1 (f_X2_isShedAheadOf x1 k S)))
set_option maxHeartbeats 4000000 in
set_option maxRecDepth 100000 in
theorem c_X2_goesAheadOf (l : Launch) (G : WG) (a : Nat → Nat) (ha : wInj 21 a) (k : Nat) (hk : k < 10) (x1 : Nat) (hx1 : x1 < 10) (S : CS) (sz : Nat) : gMz l yX2_goesAheadOf wsX2_goesAheadOf ({ frames := 1, cells := 0, slots := 0, locals := 21 }) G 21 a (CW G.2 a) [.ref (a (4 + k)), .ref (a (4 + x1))] S sz (f_X2_goesAheadOf k x1 S) := by
  unfold gMz
  refine Met.ofW (cc := cX2_goesAheadOf) (maxL := 2) (ret := (some .boolean)) (by decide) rfl ?_
  intro p e s m args below meth c s₁ B hml hv
  obtain ⟨rfl, rfl, hP, hK⟩ := hv
  have hx := B.exec
  have hb := B.bytes
  have hr := B.returns
  have hts := atoms_spec (ws := wsX2_goesAheadOf) B.pre
  have hown : s.vm.findClass RX2 = some m.cls := findClass_of_methodNamed B.named
  have hlocks := B.notSynchronized
  have hS : va_S (wA 21 a s.heap.size) s.heap s.heap [] := va_S.rf
  have hw2 : ∀ w ∈ wsX20, w.before ([.ref (a (4 + k)), .ref (a (4 + x1))] : List Value).toArray s = true := fun w hw => hts w ((by decide +kernel : ∀ w ∈ wsX20, w ∈ wsX2_goesAheadOf) w hw)
  have hl := lv_entry ([.ref (a (4 + k)), .ref (a (4 + x1))]) (n := 2) (Nat.le_of_ble_eq_true rfl)
  rw [lg_entry_eq]
  generalize (lg_sl ([.ref (a (4 + k)), .ref (a (4 + x1))] : List Value) ++ List.replicate (2 - (lg_sl ([.ref (a (4 + k)), .ref (a (4 + x1))] : List Value)).length) Slot.unset).toArray = ls at hl ⊢
  have hl : lv_has ls 2 [(0, .ref (a (4 + k))), (1, .ref (a (4 + x1)))] := hl
  generalize hF : f_X2_goesAheadOf k x1 S = F
  have h : f_X2_goesAheadOf k x1 S = F := hF
  clear hF
  show W p l e ({ frames := 1, cells := 0, slots := 0, locals := 21 } : Room) s m ([.ref (a (4 + k)), .ref (a (4 + x1))] : List Value).toArray below meth c s.heap [] 0 0 (gQz below G (CW G.2 a) 21 a F ([.ref (a (4 + k)), .ref (a (4 + x1))] : List Value).toArray s) (F0 m 0 ls [])
  have J21 : ∀ (S21 : CS) (s0_21 : Int32), (isB s0_21) → f_X2_goesAheadOf_b21 k x1 S21 s0_21 = F → ∀ (H : Heap) (locs : List Loc) (ls : Array Slot), wC G a S21 H → va_S (wA 21 a s.heap.size) s.heap H locs → lv_has ls 2 [] → W p l e ({ frames := 1, cells := 0, slots := 0, locals := 21 } : Room) s m ([.ref (a (4 + k)), .ref (a (4 + x1))] : List Value).toArray below meth c H locs 0 0 (gQz below G (CW G.2 a) 21 a F ([.ref (a (4 + k)), .ref (a (4 + x1))] : List Value).toArray s) (F0 m 21 ls [.int s0_21]) := by
    intro S21 s0_21 hbs0_21 h H locs ls hP hS hl
    rewrite [f_X2_goesAheadOf_b21] at h
    exact gRz (wf := CW G.2 a) (S := S21) hx hb hr hlocks hbs0_21 hP hS h dX2_goesAheadOf_21
  rewrite [f_X2_goesAheadOf] at h
  refine lv_aload_n hx hb dX2_goesAheadOf_0 rfl (lv_at hl 0 rfl) ?_
  refine cgL hx hb hw2 hown hK hP (i := k) (by omega) 3 (by decide) (hts (.fieldLink RX2 9 "BackupPower$Load" "state" "I") (by decide +kernel)) dX2_goesAheadOf_1 ?_
  refine lv_iconst (v := 1) hx hb dX2_goesAheadOf_4 (by decide) ?_
  refine lv_icmp_ne (tgt := 16) hx hb dX2_goesAheadOf_5 (by decide) (fun c5 => ?_) (fun c5 => ?_)
  · rewrite [if_neg c5] at h
    refine lv_aload_n hx hb dX2_goesAheadOf_16 rfl (lv_at hl 1 rfl) ?_
    refine lv_aload_n hx hb dX2_goesAheadOf_17 rfl (lv_at hl 0 rfl) ?_
    refine gcVz (wf := CW G.2 a) (N := 21) (ad := a) (As := [.ref (a (4 + k))]) (rest := []) (S := S) ⟨hx, hb, hml, hown, hts⟩ hK hP hS (c_X2_isShedAheadOf l G a ha x1 (by omega) k (by omega) S _) (cwV 1 hts gX2_goesAheadOf_X2_isShedAheadOf rfl rfl rfl (by decide +kernel) ⟨Nat.le_of_ble_eq_true rfl, Nat.le_of_ble_eq_true rfl⟩) (crL hK hP (i := x1) (by omega)) rfl hl.1 rfl (Nat.le_of_ble_eq_true rfl) dX2_goesAheadOf_18 ⟨Nat.le_of_ble_eq_true rfl, Nat.le_of_ble_eq_true rfl⟩ (fun p18 H locs ep18 hbp18 hP hS => ?_)
    rewrite [← ep18] at h
    rewrite [f_X2_goesAheadOf_c18] at h
    exact J21 p18.2 p18.1 hbp18 h _ _ _ hP hS (lv_sub hl [] rfl)
  · rewrite [if_pos c5] at h
    refine lv_aload_n hx hb dX2_goesAheadOf_8 rfl (lv_at hl 0 rfl) ?_
    refine lv_aload_n hx hb dX2_goesAheadOf_9 rfl (lv_at hl 1 rfl) ?_
    refine gcVz (wf := CW G.2 a) (N := 21) (ad := a) (As := [.ref (a (4 + x1))]) (rest := []) (S := S) ⟨hx, hb, hml, hown, hts⟩ hK hP hS (c_X2_isShedAheadOf l G a ha k (by omega) x1 (by omega) S _) (cwV 1 hts gX2_goesAheadOf_X2_isShedAheadOf rfl rfl rfl (by decide +kernel) ⟨Nat.le_of_ble_eq_true rfl, Nat.le_of_ble_eq_true rfl⟩) (crL hK hP (i := k) (by omega)) rfl hl.1 rfl (Nat.le_of_ble_eq_true rfl) dX2_goesAheadOf_10 ⟨Nat.le_of_ble_eq_true rfl, Nat.le_of_ble_eq_true rfl⟩ (fun p10 H locs ep10 hbp10 hP hS => ?_)
    rewrite [← ep10] at h
    rewrite [f_X2_goesAheadOf_c10] at h
    refine lv_goto (tgt := 21) hx hb dX2_goesAheadOf_13 (by decide) ?_
    exact J21 p10.2 p10.1 hbp10 h _ _ _ hP hS (lv_sub hl [] rfl)
