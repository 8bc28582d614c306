def f_X4_thrown (n : Nat × Nat × Nat) (S : MS) : Int32 × MS := (S.1 0, S)
set_option maxHeartbeats 4000000 in
set_option maxRecDepth 100000 in
theorem c_X4_thrown (l : Launch) (G : WG) (b : Nat → Nat) (ha : wInj 27 b) (n : Nat × Nat × Nat) (hn : n.1 ≤ 10 ∧ n.2.1 ≤ 3 ∧ n.2.2 ≤ 3) (S : MS) (sz : Nat) : gMi l yX4_thrown wsX4_thrown ({ frames := 0, cells := 0, slots := 0, locals := 0 }) G 27 b (MW G.2 b n) [.ref (b 0)] S sz (f_X4_thrown n S) := by
  unfold gMi
  refine Met.ofW (cc := cX4_thrown) (maxL := 1) (ret := (some .int)) (by decide) rfl ?_
  intro p e s m args below meth c s₁ B hml hv
  obtain ⟨rfl, rfl, hP, hK⟩ := hv
  have hx := B.exec
  have hb := B.bytes
  have hr := B.returns
  have hts := atoms_spec (ws := wsX4_thrown) B.pre
  have hown : s.vm.findClass RX4 = some m.cls := findClass_of_methodNamed B.named
  have hlocks := B.notSynchronized
  have hS : va_S (wA 27 b s.heap.size) s.heap s.heap [] := va_S.rf
  have hw4 : ∀ w ∈ wsX40, w.before ([.ref (b 0)] : List Value).toArray s = true := fun w hw => hts w ((by decide +kernel : ∀ w ∈ wsX40, w ∈ wsX4_thrown) w hw)
  have hl := lv_entry ([.ref (b 0)]) (n := 1) (Nat.le_of_ble_eq_true rfl)
  rw [lg_entry_eq]
  generalize (lg_sl ([.ref (b 0)] : List Value) ++ List.replicate (1 - (lg_sl ([.ref (b 0)] : List Value)).length) Slot.unset).toArray = ls at hl ⊢
  have hl : lv_has ls 1 [(0, .ref (b 0))] := hl
  generalize hF : f_X4_thrown n S = F
  have h : f_X4_thrown n S = F := hF
  clear hF
  show W p l e ({ frames := 0, cells := 0, slots := 0, locals := 0 } : Room) s m ([.ref (b 0)] : List Value).toArray below meth c s.heap [] 0 0 (gQi below G (MW G.2 b n) 27 b F ([.ref (b 0)] : List Value).toArray s) (F0 m 0 ls [])
  rewrite [f_X4_thrown] at h
  refine lv_aload_n hx hb dX4_thrown_0 rfl (lv_at hl 0 rfl) ?_
  refine mg hx hb hw4 hown hK hP 0 (by decide) (v := .int (S.1 0)) rfl (hts (.fieldLink RX4 103 "BackupPowerModel" "thrown" "I") (by decide +kernel)) dX4_thrown_1 ?_
  exact gRi (wf := MW G.2 b n) (S := S) hx hb hr hlocks hP hS h dX4_thrown_4

def f_X4_fails (n : Nat × Nat × Nat) (x1 : Int32) (S : MS) : Int32 × MS := (0, (muS S 0 x1))
set_option maxHeartbeats 4000000 in
set_option maxRecDepth 100000 in
theorem c_X4_fails (l : Launch) (G : WG) (b : Nat → Nat) (ha : wInj 27 b) (n : Nat × Nat × Nat) (hn : n.1 ≤ 10 ∧ n.2.1 ≤ 3 ∧ n.2.2 ≤ 3) (x1 : Int32) (S : MS) (sz : Nat) : gMi l yX4_fails wsX4_fails ({ frames := 0, cells := 0, slots := 0, locals := 0 }) G 27 b (MW G.2 b n) [.ref (b 0), .int x1] S sz (f_X4_fails n x1 S) := by
  unfold gMi
  refine Met.ofW (cc := cX4_fails) (maxL := 2) (ret := (some .int)) (by decide) rfl ?_
  intro p e s m args below meth c s₁ B hml hv
  obtain ⟨rfl, rfl, hP, hK⟩ := hv
  have hx := B.exec
  have hb := B.bytes
  have hr := B.returns
  have hts := atoms_spec (ws := wsX4_fails) B.pre
  have hown : s.vm.findClass RX4 = some m.cls := findClass_of_methodNamed B.named
  have hlocks := B.notSynchronized
  have hS : va_S (wA 27 b s.heap.size) s.heap s.heap [] := va_S.rf
  have hw4 : ∀ w ∈ wsX40, w.before ([.ref (b 0), .int x1] : List Value).toArray s = true := fun w hw => hts w ((by decide +kernel : ∀ w ∈ wsX40, w ∈ wsX4_fails) w hw)
  have hl := lv_entry ([.ref (b 0), .int x1]) (n := 2) (Nat.le_of_ble_eq_true rfl)
  rw [lg_entry_eq]
  generalize (lg_sl ([.ref (b 0), .int x1] : List Value) ++ List.replicate (2 - (lg_sl ([.ref (b 0), .int x1] : List Value)).length) Slot.unset).toArray = ls at hl ⊢
  have hl : lv_has ls 2 [(0, .ref (b 0)), (1, .int x1)] := hl
  generalize hF : f_X4_fails n x1 S = F
  have h : f_X4_fails n x1 S = F := hF
  clear hF
  show W p l e ({ frames := 0, cells := 0, slots := 0, locals := 0 } : Room) s m ([.ref (b 0), .int x1] : List Value).toArray below meth c s.heap [] 0 0 (gQi below G (MW G.2 b n) 27 b F ([.ref (b 0), .int x1] : List Value).toArray s) (F0 m 0 ls [])
  rewrite [f_X4_fails] at h
  refine lv_aload_n hx hb dX4_fails_0 rfl (lv_at hl 0 rfl) ?_
  refine lv_iload_n hx hb dX4_fails_1 rfl (lv_at hl 1 rfl) ?_
  refine mp hx hb hw4 hown hK ha hP hS 0 (by decide) rfl rfl okI (hts (.fieldLink RX4 103 "BackupPowerModel" "thrown" "I") (by decide +kernel)) dX4_fails_2 (fun H locs hP hS => ?_)
  refine lv_iconst (v := 0) hx hb dX4_fails_5 (by decide) ?_
  exact gRi (wf := MW G.2 b n) (S := (muS S 0 x1)) hx hb hr hlocks hP hS h dX4_fails_6

def f_X4_in_b15 (n : Nat × Nat × Nat) (x1 : Int32) (x2 : Int32) (x3 : Int32) (S15 : MS) (s0_15 : Int32) : Int32 × MS := (s0_15, S15)
def f_X4_in_b14 (n : Nat × Nat × Nat) (x1 : Int32) (x2 : Int32) (x3 : Int32) (S14 : MS) : Int32 × MS := (f_X4_in_b15 n x1 x2 x3 S14 0)
def f_X4_in (n : Nat × Nat × Nat) (x1 : Int32) (x2 : Int32) (x3 : Int32) (S : MS) : Int32 × MS := (if x1 < x2 then (f_X4_in_b14 n x1 x2 x3 S) else (if x3 < x1 then (f_X4_in_b14 n x1 x2 x3 S) else (f_X4_in_b15 n x1 x2 x3 S 1)))
set_option maxHeartbeats 4000000 in
set_option maxRecDepth 100000 in
theorem c_X4_in (l : Launch) (G : WG) (b : Nat → Nat) (ha : wInj 27 b) (n : Nat × Nat × Nat) (hn : n.1 ≤ 10 ∧ n.2.1 ≤ 3 ∧ n.2.2 ≤ 3) (x1 : Int32) (x2 : Int32) (x3 : Int32) (S : MS) (sz : Nat) : gMz l yX4_in wsX4_in ({ frames := 0, cells := 0, slots := 0, locals := 0 }) G 27 b (MW G.2 b n) [.int x1, .int x2, .int x3] S sz (f_X4_in n x1 x2 x3 S) := by
  unfold gMz
  refine Met.ofW (cc := cX4_in) (maxL := 3) (ret := (some .boolean)) (by decide) rfl ?_
  intro p e s m args below meth c s₁ B hml hv
  obtain ⟨rfl, rfl, hP, hK⟩ := hv
  have hx := B.exec
  have hb := B.bytes
  have hr := B.returns
  have hts := atoms_spec (ws := wsX4_in) B.pre
  have hown : s.vm.findClass RX4 = some m.cls := findClass_of_methodNamed B.named
  have hlocks := B.notSynchronized
  have hS : va_S (wA 27 b s.heap.size) s.heap s.heap [] := va_S.rf
  have hl := lv_entry ([.int x1, .int x2, .int x3]) (n := 3) (Nat.le_of_ble_eq_true rfl)
  rw [lg_entry_eq]
  generalize (lg_sl ([.int x1, .int x2, .int x3] : List Value) ++ List.replicate (3 - (lg_sl ([.int x1, .int x2, .int x3] : List Value)).length) Slot.unset).toArray = ls at hl ⊢
  have hl : lv_has ls 3 [(0, .int x1), (1, .int x2), (2, .int x3)] := hl
  generalize hF : f_X4_in n x1 x2 x3 S = F
  have h : f_X4_in n x1 x2 x3 S = F := hF
  clear hF
  show W p l e ({ frames := 0, cells := 0, slots := 0, locals := 0 } : Room) s m ([.int x1, .int x2, .int x3] : List Value).toArray below meth c s.heap [] 0 0 (gQz below G (MW G.2 b n) 27 b F ([.int x1, .int x2, .int x3] : List Value).toArray s) (F0 m 0 ls [])
  have J15 : ∀ (S15 : MS) (s0_15 : Int32), (isB s0_15) → f_X4_in_b15 n x1 x2 x3 S15 s0_15 = F → ∀ (H : Heap) (locs : List Loc) (ls : Array Slot), wM G b n S15 H → va_S (wA 27 b s.heap.size) s.heap H locs → lv_has ls 3 [] → W p l e ({ frames := 0, cells := 0, slots := 0, locals := 0 } : Room) s m ([.int x1, .int x2, .int x3] : List Value).toArray below meth c H locs 0 0 (gQz below G (MW G.2 b n) 27 b F ([.int x1, .int x2, .int x3] : List Value).toArray s) (F0 m 15 ls [.int s0_15]) := by
    intro S15 s0_15 hbs0_15 h H locs ls hP hS hl
    rewrite [f_X4_in_b15] at h
    exact gRz (wf := MW G.2 b n) (S := S15) hx hb hr hlocks hbs0_15 hP hS h dX4_in_15
  have J14 : ∀ (S14 : MS), f_X4_in_b14 n x1 x2 x3 S14 = F → ∀ (H : Heap) (locs : List Loc) (ls : Array Slot), wM G b n S14 H → va_S (wA 27 b s.heap.size) s.heap H locs → lv_has ls 3 [] → W p l e ({ frames := 0, cells := 0, slots := 0, locals := 0 } : Room) s m ([.int x1, .int x2, .int x3] : List Value).toArray below meth c H locs 0 0 (gQz below G (MW G.2 b n) 27 b F ([.int x1, .int x2, .int x3] : List Value).toArray s) (F0 m 14 ls []) := by
    intro S14 h H locs ls hP hS hl
    rewrite [f_X4_in_b14] at h
    refine lv_iconst (v := 0) hx hb dX4_in_14 (by decide) ?_
    exact J15 S14 0 isB_0 h _ _ _ hP hS (lv_sub hl [] rfl)
  rewrite [f_X4_in] at h
  refine lv_iload_n hx hb dX4_in_0 rfl (lv_at hl 0 rfl) ?_
  refine lv_iload_n hx hb dX4_in_1 rfl (lv_at hl 1 rfl) ?_
  refine lv_icmp_lt (tgt := 14) hx hb dX4_in_2 (by decide) (fun c2 => ?_) (fun c2 => ?_)
  · rewrite [if_pos c2] at h
    exact J14 S h _ _ _ hP hS (lv_sub hl [] rfl)
  · rewrite [if_neg c2] at h
    refine lv_iload_n hx hb dX4_in_5 rfl (lv_at hl 0 rfl) ?_
    refine lv_iload_n hx hb dX4_in_6 rfl (lv_at hl 2 rfl) ?_
    refine lv_icmp_gt (tgt := 14) hx hb dX4_in_7 (by decide) (fun c7 => ?_) (fun c7 => ?_)
    · rewrite [if_pos c7] at h
      exact J14 S h _ _ _ hP hS (lv_sub hl [] rfl)
    · rewrite [if_neg c7] at h
      refine lv_iconst (v := 1) hx hb dX4_in_10 (by decide) ?_
      refine lv_goto (tgt := 15) hx hb dX4_in_11 (by decide) ?_
      exact J15 S 1 isB_1 h _ _ _ hP hS (lv_sub hl [] rfl)

def f_X4_lesser_b10 (n : Nat × Nat × Nat) (x1 : Int32) (x2 : Int32) (S10 : MS) (s0_10 : Int32) : Int32 × MS := (s0_10, S10)
def f_X4_lesser (n : Nat × Nat × Nat) (x1 : Int32) (x2 : Int32) (S : MS) : Int32 × MS := (if x2 ≤ x1 then (f_X4_lesser_b10 n x1 x2 S x2) else (f_X4_lesser_b10 n x1 x2 S x1))
set_option maxHeartbeats 4000000 in
set_option maxRecDepth 100000 in
theorem c_X4_lesser (l : Launch) (G : WG) (b : Nat → Nat) (ha : wInj 27 b) (n : Nat × Nat × Nat) (hn : n.1 ≤ 10 ∧ n.2.1 ≤ 3 ∧ n.2.2 ≤ 3) (x1 : Int32) (x2 : Int32) (S : MS) (sz : Nat) : gMi l yX4_lesser wsX4_lesser ({ frames := 0, cells := 0, slots := 0, locals := 0 }) G 27 b (MW G.2 b n) [.int x1, .int x2] S sz (f_X4_lesser n x1 x2 S) := by
  unfold gMi
  refine Met.ofW (cc := cX4_lesser) (maxL := 2) (ret := (some .int)) (by decide) rfl ?_
  intro p e s m args below meth c s₁ B hml hv
  obtain ⟨rfl, rfl, hP, hK⟩ := hv
  have hx := B.exec
  have hb := B.bytes
  have hr := B.returns
  have hts := atoms_spec (ws := wsX4_lesser) B.pre
  have hown : s.vm.findClass RX4 = some m.cls := findClass_of_methodNamed B.named
  have hlocks := B.notSynchronized
  have hS : va_S (wA 27 b s.heap.size) s.heap s.heap [] := va_S.rf
  have hl := lv_entry ([.int x1, .int x2]) (n := 2) (Nat.le_of_ble_eq_true rfl)
  rw [lg_entry_eq]
  generalize (lg_sl ([.int x1, .int x2] : List Value) ++ List.replicate (2 - (lg_sl ([.int x1, .int x2] : List Value)).length) Slot.unset).toArray = ls at hl ⊢
  have hl : lv_has ls 2 [(0, .int x1), (1, .int x2)] := hl
  generalize hF : f_X4_lesser n x1 x2 S = F
  have h : f_X4_lesser n x1 x2 S = F := hF
  clear hF
  show W p l e ({ frames := 0, cells := 0, slots := 0, locals := 0 } : Room) s m ([.int x1, .int x2] : List Value).toArray below meth c s.heap [] 0 0 (gQi below G (MW G.2 b n) 27 b F ([.int x1, .int x2] : List Value).toArray s) (F0 m 0 ls [])
  have J10 : ∀ (S10 : MS) (s0_10 : Int32), f_X4_lesser_b10 n x1 x2 S10 s0_10 = F → ∀ (H : Heap) (locs : List Loc) (ls : Array Slot), wM G b n S10 H → va_S (wA 27 b s.heap.size) s.heap H locs → lv_has ls 2 [] → W p l e ({ frames := 0, cells := 0, slots := 0, locals := 0 } : Room) s m ([.int x1, .int x2] : List Value).toArray below meth c H locs 0 0 (gQi below G (MW G.2 b n) 27 b F ([.int x1, .int x2] : List Value).toArray s) (F0 m 10 ls [.int s0_10]) := by
    intro S10 s0_10 h H locs ls hP hS hl
    rewrite [f_X4_lesser_b10] at h
    exact gRi (wf := MW G.2 b n) (S := S10) hx hb hr hlocks hP hS h dX4_lesser_10
  rewrite [f_X4_lesser] at h
  refine lv_iload_n hx hb dX4_lesser_0 rfl (lv_at hl 0 rfl) ?_
  refine lv_iload_n hx hb dX4_lesser_1 rfl (lv_at hl 1 rfl) ?_
  refine lv_icmp_ge (tgt := 9) hx hb dX4_lesser_2 (by decide) (fun c2 => ?_) (fun c2 => ?_)
  · rewrite [if_pos c2] at h
    refine lv_iload_n hx hb dX4_lesser_9 rfl (lv_at hl 1 rfl) ?_
    exact J10 S x2 h _ _ _ hP hS (lv_sub hl [] rfl)
  · rewrite [if_neg c2] at h
    refine lv_iload_n hx hb dX4_lesser_5 rfl (lv_at hl 0 rfl) ?_
    refine lv_goto (tgt := 10) hx hb dX4_lesser_6 (by decide) ?_
    exact J10 S x1 h _ _ _ hP hS (lv_sub hl [] rfl)

def f_X4_isLoad_c8 (n : Nat × Nat × Nat) (x1 : Int32) (p8 : Int32 × MS) : Int32 × MS := (p8.1, p8.2)
def f_X4_isLoad (n : Nat × Nat × Nat) (x1 : Int32) (S : MS) : Int32 × MS := (f_X4_isLoad_c8 n x1 (f_X4_in n x1 0 ((nI n.1) - 1) S))
set_option maxHeartbeats 4000000 in
set_option maxRecDepth 100000 in
theorem c_X4_isLoad (l : Launch) (G : WG) (b : Nat → Nat) (ha : wInj 27 b) (n : Nat × Nat × Nat) (hn : n.1 ≤ 10 ∧ n.2.1 ≤ 3 ∧ n.2.2 ≤ 3) (x1 : Int32) (S : MS) (sz : Nat) : gMz l yX4_isLoad wsX4_isLoad ({ frames := 1, cells := 0, slots := 0, locals := 22 }) G 27 b (MW G.2 b n) [.ref (b 0), .int x1] S sz (f_X4_isLoad n x1 S) := by
  unfold gMz
  refine Met.ofW (cc := cX4_isLoad) (maxL := 2) (ret := (some .boolean)) (by decide) rfl ?_
  intro p e s m args below meth c s₁ B hml hv
  obtain ⟨rfl, rfl, hP, hK⟩ := hv
  have hx := B.exec
  have hb := B.bytes
  have hr := B.returns
  have hts := atoms_spec (ws := wsX4_isLoad) B.pre
  have hown : s.vm.findClass RX4 = some m.cls := findClass_of_methodNamed B.named
  have hlocks := B.notSynchronized
  have hS : va_S (wA 27 b s.heap.size) s.heap s.heap [] := va_S.rf
  have hw4 : ∀ w ∈ wsX40, w.before ([.ref (b 0), .int x1] : List Value).toArray s = true := fun w hw => hts w ((by decide +kernel : ∀ w ∈ wsX40, w ∈ wsX4_isLoad) w hw)
  have hl := lv_entry ([.ref (b 0), .int x1]) (n := 2) (Nat.le_of_ble_eq_true rfl)
  rw [lg_entry_eq]
  generalize (lg_sl ([.ref (b 0), .int x1] : List Value) ++ List.replicate (2 - (lg_sl ([.ref (b 0), .int x1] : List Value)).length) Slot.unset).toArray = ls at hl ⊢
  have hl : lv_has ls 2 [(0, .ref (b 0)), (1, .int x1)] := hl
  generalize hF : f_X4_isLoad n x1 S = F
  have h : f_X4_isLoad n x1 S = F := hF
  clear hF
  show W p l e ({ frames := 1, cells := 0, slots := 0, locals := 22 } : Room) s m ([.ref (b 0), .int x1] : List Value).toArray below meth c s.heap [] 0 0 (gQz below G (MW G.2 b n) 27 b F ([.ref (b 0), .int x1] : List Value).toArray s) (F0 m 0 ls [])
  rewrite [f_X4_isLoad] at h
  refine lv_iload_n hx hb dX4_isLoad_0 rfl (lv_at hl 1 rfl) ?_
  refine lv_iconst (v := 0) hx hb dX4_isLoad_1 (by decide) ?_
  refine lv_aload_n hx hb dX4_isLoad_2 rfl (lv_at hl 0 rfl) ?_
  refine mg hx hb hw4 hown hK hP 7 (by decide) (v := .int (nI n.1)) rfl (hts (.fieldLink RX4 106 "BackupPowerModel" "loadMany" "I") (by decide +kernel)) dX4_isLoad_3 ?_
  refine lv_iconst (v := 1) hx hb dX4_isLoad_6 (by decide) ?_
  refine lv_isub hx hb dX4_isLoad_7 ?_
  refine gcSz (wf := MW G.2 b n) (N := 27) (ad := b) (As := [.int x1, .int 0, .int ((nI n.1) - 1)]) (rest := []) (S := S) ⟨hx, hb, hml, hown, hts⟩ hK hP hS (c_X4_in l G b ha n hn x1 0 ((nI n.1) - 1) S _) (va_cwS 3 hts gX4_isLoad_X4_in rfl rfl rfl (by decide +kernel) ⟨Nat.le_of_ble_eq_true rfl, Nat.le_of_ble_eq_true rfl⟩) rfl hl.1 rfl (Nat.le_of_ble_eq_true rfl) dX4_isLoad_8 ⟨Nat.le_of_ble_eq_true rfl, Nat.le_of_ble_eq_true rfl⟩ (fun p8 H locs ep8 hbp8 hP hS => ?_)
  rewrite [← ep8] at h
  rewrite [f_X4_isLoad_c8] at h
  exact gRz (wf := MW G.2 b n) (S := p8.2) hx hb hr hlocks hbp8 hP hS h dX4_isLoad_11

def f_X4_isGenerator_c8 (n : Nat × Nat × Nat) (x1 : Int32) (p8 : Int32 × MS) : Int32 × MS := (p8.1, p8.2)
def f_X4_isGenerator (n : Nat × Nat × Nat) (x1 : Int32) (S : MS) : Int32 × MS := (f_X4_isGenerator_c8 n x1 (f_X4_in n x1 0 ((nI n.2.2) - 1) S))
set_option maxHeartbeats 4000000 in
set_option maxRecDepth 100000 in
theorem c_X4_isGenerator (l : Launch) (G : WG) (b : Nat → Nat) (ha : wInj 27 b) (n : Nat × Nat × Nat) (hn : n.1 ≤ 10 ∧ n.2.1 ≤ 3 ∧ n.2.2 ≤ 3) (x1 : Int32) (S : MS) (sz : Nat) : gMz l yX4_isGenerator wsX4_isGenerator ({ frames := 1, cells := 0, slots := 0, locals := 22 }) G 27 b (MW G.2 b n) [.ref (b 0), .int x1] S sz (f_X4_isGenerator n x1 S) := by
  unfold gMz
  refine Met.ofW (cc := cX4_isGenerator) (maxL := 2) (ret := (some .boolean)) (by decide) rfl ?_
  intro p e s m args below meth c s₁ B hml hv
  obtain ⟨rfl, rfl, hP, hK⟩ := hv
  have hx := B.exec
  have hb := B.bytes
  have hr := B.returns
  have hts := atoms_spec (ws := wsX4_isGenerator) B.pre
  have hown : s.vm.findClass RX4 = some m.cls := findClass_of_methodNamed B.named
  have hlocks := B.notSynchronized
  have hS : va_S (wA 27 b s.heap.size) s.heap s.heap [] := va_S.rf
  have hw4 : ∀ w ∈ wsX40, w.before ([.ref (b 0), .int x1] : List Value).toArray s = true := fun w hw => hts w ((by decide +kernel : ∀ w ∈ wsX40, w ∈ wsX4_isGenerator) w hw)
  have hl := lv_entry ([.ref (b 0), .int x1]) (n := 2) (Nat.le_of_ble_eq_true rfl)
  rw [lg_entry_eq]
  generalize (lg_sl ([.ref (b 0), .int x1] : List Value) ++ List.replicate (2 - (lg_sl ([.ref (b 0), .int x1] : List Value)).length) Slot.unset).toArray = ls at hl ⊢
  have hl : lv_has ls 2 [(0, .ref (b 0)), (1, .int x1)] := hl
  generalize hF : f_X4_isGenerator n x1 S = F
  have h : f_X4_isGenerator n x1 S = F := hF
  clear hF
  show W p l e ({ frames := 1, cells := 0, slots := 0, locals := 22 } : Room) s m ([.ref (b 0), .int x1] : List Value).toArray below meth c s.heap [] 0 0 (gQz below G (MW G.2 b n) 27 b F ([.ref (b 0), .int x1] : List Value).toArray s) (F0 m 0 ls [])
  rewrite [f_X4_isGenerator] at h
  refine lv_iload_n hx hb dX4_isGenerator_0 rfl (lv_at hl 1 rfl) ?_
  refine lv_iconst (v := 0) hx hb dX4_isGenerator_1 (by decide) ?_
  refine lv_aload_n hx hb dX4_isGenerator_2 rfl (lv_at hl 0 rfl) ?_
  refine mg hx hb hw4 hown hK hP 20 (by decide) (v := .int (nI n.2.2)) rfl (hts (.fieldLink RX4 113 "BackupPowerModel" "generatorMany" "I") (by decide +kernel)) dX4_isGenerator_3 ?_
  refine lv_iconst (v := 1) hx hb dX4_isGenerator_6 (by decide) ?_
  refine lv_isub hx hb dX4_isGenerator_7 ?_
  refine gcSz (wf := MW G.2 b n) (N := 27) (ad := b) (As := [.int x1, .int 0, .int ((nI n.2.2) - 1)]) (rest := []) (S := S) ⟨hx, hb, hml, hown, hts⟩ hK hP hS (c_X4_in l G b ha n hn x1 0 ((nI n.2.2) - 1) S _) (va_cwS 3 hts gX4_isGenerator_X4_in rfl rfl rfl (by decide +kernel) ⟨Nat.le_of_ble_eq_true rfl, Nat.le_of_ble_eq_true rfl⟩) rfl hl.1 rfl (Nat.le_of_ble_eq_true rfl) dX4_isGenerator_8 ⟨Nat.le_of_ble_eq_true rfl, Nat.le_of_ble_eq_true rfl⟩ (fun p8 H locs ep8 hbp8 hP hS => ?_)
  rewrite [← ep8] at h
  rewrite [f_X4_isGenerator_c8] at h
  exact gRz (wf := MW G.2 b n) (S := p8.2) hx hb hr hlocks hbp8 hP hS h dX4_isGenerator_11
