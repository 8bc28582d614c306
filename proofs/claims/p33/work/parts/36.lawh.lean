/-! ===== the law's helpers, walked ===== -/
theorem fd_00 : ¬ 0 < nI 0 := by decide
theorem x5_0 {k : Nat} (hk : k ≤ 3) (h : ¬ 0 < nI k) : k = 0 := by
  rw [i_lt, i_0, nI_toInt (by omega)] at h
  omega
def f_L_low (x1 : Int32) (x2 : Nat) (S : CS) : Int32 × CS := ((x1 &&& 2147483647) - ((x1 &&& 2147483647) / (nI x2)) * (nI x2), S)
set_option maxHeartbeats 4000000 in
set_option maxRecDepth 100000 in
theorem c_L_low (l : Launch) (G : WG) (a : Nat → Nat) (ha : wInj 21 a) (x1 : Int32) (x2 : Nat) (hx2 : x2 ≤ 2000) (S : CS) (hp2 : 0 < x2) (sz : Nat) : gMi l yL_low wsL_low ({ frames := 0, cells := 0, slots := 0, locals := 0 }) G 21 a (CW G.2 a) [.int x1, .int (nI x2)] S sz (f_L_low x1 x2 S) := by
  unfold gMi
  refine Met.ofW (cc := cL_low) (maxL := 2) (ret := (some .int)) (by decide) rfl ?_
  intro p e s m args below meth c s₁ B hml hv
  obtain ⟨rfl, rfl, hP, hK⟩ := hv
  have hx := B.exec
  have hb := B.bytes
  have hr := B.returns
  have hts := atoms_spec (ws := wsL_low) B.pre
  have hown : s.vm.findClass RL = some m.cls := findClass_of_methodNamed B.named
  have hlocks := B.notSynchronized
  have hS : va_S (wA 21 a s.heap.size) s.heap s.heap [] := va_S.rf
  have hl := lv_entry ([.int x1, .int (nI x2)]) (n := 2) (Nat.le_of_ble_eq_true rfl)
  rw [lg_entry_eq]
  generalize (lg_sl ([.int x1, .int (nI x2)] : List Value) ++ List.replicate (2 - (lg_sl ([.int x1, .int (nI x2)] : List Value)).length) Slot.unset).toArray = ls at hl ⊢
  have hl : lv_has ls 2 [(0, .int x1), (1, .int (nI x2))] := hl
  generalize hF : f_L_low x1 x2 S = F
  have h : f_L_low x1 x2 S = F := hF
  clear hF
  show W p l e ({ frames := 0, cells := 0, slots := 0, locals := 0 } : Room) s m ([.int x1, .int (nI x2)] : List Value).toArray below meth c s.heap [] 0 0 (gQi below G (CW G.2 a) 21 a F ([.int x1, .int (nI x2)] : List Value).toArray s) (F0 m 0 ls [])
  rewrite [f_L_low] at h
  refine lv_iload_n hx hb dL_low_0 rfl (lv_at hl 0 rfl) ?_
  refine lv_ldc (v := 2147483647) hx hb hown (hts (.constant RL 7 (2147483647)) (by decide +kernel)) dL_low_1 ?_
  refine lv_iand hx hb dL_low_3 ?_
  refine lv_iload_n hx hb dL_low_4 rfl (lv_at hl 1 rfl) ?_
  refine lv_irem hx hb dL_low_5 (nI_ned hp2 hx2) ?_
  exact gRi (wf := CW G.2 a) (S := S) hx hb hr hlocks hP hS h dL_low_6

theorem q_low (l : Launch) (G : WG) (a : Nat → Nat) (ha : wInj 21 a) (x1 : Int32) (x2 : Nat) (hx2 : x2 ≤ 2000) (S : CS) (hp2 : 0 < x2) (sz : Nat) : gMi l yL_low wsL_low ({ frames := 0, cells := 0, slots := 0, locals := 0 }) G 21 a (CW G.2 a) [.int x1, .int (nI x2)] S sz (nI (lw x1 x2), S) := by
  have h1 := c_L_low l G a ha x1 x2 hx2 S hp2 sz
  have e : f_L_low x1 x2 S = (nI (lw x1 x2), S) := by
    unfold f_L_low
    rw [low_eq hp2 (by omega)]
  rw [e] at h1
  exact h1

def f_L_charges_h4 (x2 : Nat) : Nat → Nat → CS → Int32 → Int32 × CS
  | 0, _, S4, _ => (0, S4)
  | q + 1, k4, S4, v2_4 => (if x2 ≤ k4 then (v2_4, S4) else ((f_L_charges_h4 x2 q) (k4 + 1) S4 (v2_4 + (S4.2.2.1 k4 1))))
def f_L_charges (x2 : Nat) (S : CS) : Int32 × CS := (f_L_charges_h4 x2 (x2 + 1) 0 S 0)
set_option maxHeartbeats 4000000 in
set_option maxRecDepth 100000 in
theorem c_L_charges (l : Launch) (G : WG) (a : Nat → Nat) (ha : wInj 21 a) (x2 : Nat) (hx2 : x2 ≤ 3) (S : CS) (hs4 : S.1 4 = nI x2) (sz : Nat) : gMi l yL_charges wsL_charges ({ frames := 2, cells := 0, slots := 0, locals := 42 }) G 21 a (CW G.2 a) [.ref (a 0), .int (nI x2)] S sz (f_L_charges x2 S) := by
  unfold gMi
  refine Met.ofW (cc := cL_charges) (maxL := 4) (ret := (some .int)) (by decide) rfl ?_
  intro p e s m args below meth c s₁ B hml hv
  obtain ⟨rfl, rfl, hP, hK⟩ := hv
  have hx := B.exec
  have hb := B.bytes
  have hr := B.returns
  have hts := atoms_spec (ws := wsL_charges) B.pre
  have hown : s.vm.findClass RL = some m.cls := findClass_of_methodNamed B.named
  have hlocks := B.notSynchronized
  have hS : va_S (wA 21 a s.heap.size) s.heap s.heap [] := va_S.rf
  have hl := lv_entry ([.ref (a 0), .int (nI x2)]) (n := 4) (Nat.le_of_ble_eq_true rfl)
  rw [lg_entry_eq]
  generalize (lg_sl ([.ref (a 0), .int (nI x2)] : List Value) ++ List.replicate (4 - (lg_sl ([.ref (a 0), .int (nI x2)] : List Value)).length) Slot.unset).toArray = ls at hl ⊢
  have hl : lv_has ls 4 [(0, .ref (a 0)), (1, .int (nI x2))] := hl
  generalize hF : f_L_charges x2 S = F
  have h : f_L_charges x2 S = F := hF
  clear hF
  show W p l e ({ frames := 2, cells := 0, slots := 0, locals := 42 } : Room) s m ([.ref (a 0), .int (nI x2)] : List Value).toArray below meth c s.heap [] 0 0 (gQi below G (CW G.2 a) 21 a F ([.ref (a 0), .int (nI x2)] : List Value).toArray s) (F0 m 0 ls [])
  have L4 : ∀ (q4 : Nat) (k4 : Nat) (S4 : CS) (v2_4 : Int32), (S4.1 4 = nI x2) → k4 ≤ x2 → x2 < k4 + q4 → f_L_charges_h4 x2 q4 k4 S4 v2_4 = F → ∀ (H : Heap) (locs : List Loc) (ls : Array Slot), wC G a S4 H → va_S (wA 21 a s.heap.size) s.heap H locs → lv_has ls 4 [(0, .ref (a 0)), (1, .int (nI x2)), (2, .int v2_4), (3, .int (nI k4))] → W p l e ({ frames := 2, cells := 0, slots := 0, locals := 42 } : Room) s m ([.ref (a 0), .int (nI x2)] : List Value).toArray below meth c H locs 0 0 (gQi below G (CW G.2 a) 21 a F ([.ref (a 0), .int (nI x2)] : List Value).toArray s) (F0 m 4 ls []) := by
    intro q4
    induction q4 with
    | zero => intro k4 S4 v2_4 hs4 hk4 hq4 h H locs ls hP hS hl; omega
    | succ q4 ih4 =>
      intro k4 S4 v2_4 hs4 hk4 hq4 h H locs ls hP hS hl
      rewrite [f_L_charges_h4] at h
      refine lv_iload_n hx hb dL_charges_4 rfl (lv_at hl 3 rfl) ?_
      refine lv_iload_n hx hb dL_charges_5 rfl (lv_at hl 1 rfl) ?_
      refine lv_icmp_ge (tgt := 23) hx hb dL_charges_6 (by decide) (fun c6 => ?_) (fun c6 => ?_)
      · have c6 : x2 ≤ k4 := (nI_leI (a := x2) (b := k4) (by omega) (by omega)).mp c6
        rewrite [if_pos c6] at h
        refine lv_iload_n hx hb dL_charges_23 rfl (lv_at hl 2 rfl) ?_
        exact gRi (wf := CW G.2 a) (S := S4) hx hb hr hlocks hP hS h dL_charges_24
      · have c6 : ¬ x2 ≤ k4 := fun z => c6 ((nI_leI (a := x2) (b := k4) (by omega) (by omega)).mpr z)
        rewrite [if_neg c6] at h
        refine lv_iload_n hx hb dL_charges_9 rfl (lv_at hl 2 rfl) ?_
        refine lv_aload_n hx hb dL_charges_10 rfl (lv_at hl 0 rfl) ?_
        refine lv_iload_n hx hb dL_charges_11 rfl (lv_at hl 3 rfl) ?_
        refine gcVi0 (wf := CW G.2 a) (N := 21) (ad := a) (As := [.int (nI k4)]) (rest := [.int v2_4]) (S := S4) (v := S4.2.2.1 k4 1) (S' := S4) ⟨hx, hb, hml, hown, hts⟩ hK hP hS (c_X3_chargeOf l G a ha k4 (by omega) S4 ⟨x2, by omega, hx2, hs4⟩ _) (cwV 1 hts gL_charges_X3_chargeOf rfl rfl rfl (by decide +kernel) ⟨Nat.le_of_ble_eq_true rfl, Nat.le_of_ble_eq_true rfl⟩) (crM hK hP) rfl hl.1 rfl (Nat.le_of_ble_eq_true rfl) dL_charges_12 ⟨Nat.le_of_ble_eq_true rfl, Nat.le_of_ble_eq_true rfl⟩ (fun H locs hP hS => ?_)
        refine lv_iadd hx hb dL_charges_15 ?_
        refine lv_istore_n (lv' := [(2, .int (v2_4 + (S4.2.2.1 k4 1))), (0, .ref (a 0)), (1, .int (nI x2)), (3, .int (nI k4))]) hx hb dL_charges_16 rfl hl (by decide) rfl (fun ls hl => ?_)
        refine lv_iinc (k := 3) (v := nI (k4 + 1)) (lv' := [(3, .int (nI (k4 + 1))), (2, .int (v2_4 + (S4.2.2.1 k4 1))), (0, .ref (a 0)), (1, .int (nI x2))]) hx hb dL_charges_17 hl rfl (nI_inc _) (by decide) rfl (fun ls hl => ?_)
        refine lv_goto (tgt := 4) hx hb dL_charges_20 (by decide) ?_
        exact ih4 (k4 + 1) S4 (v2_4 + (S4.2.2.1 k4 1)) hs4 (by omega) (by omega) h _ _ _ hP hS (lv_sub hl [2, 3, 1, 0] rfl)
  rewrite [f_L_charges] at h
  refine lv_iconst (v := 0) hx hb dL_charges_0 (by decide) ?_
  refine lv_istore_n (lv' := [(2, .int 0), (0, .ref (a 0)), (1, .int (nI x2))]) hx hb dL_charges_1 rfl hl (by decide) rfl (fun ls hl => ?_)
  refine lv_iconst (v := 0) hx hb dL_charges_2 (by decide) ?_
  refine lv_istore_n (lv' := [(3, .int 0), (2, .int 0), (0, .ref (a 0)), (1, .int (nI x2))]) hx hb dL_charges_3 rfl hl (by decide) rfl (fun ls hl => ?_)
  exact L4 (x2 + 1) 0 S 0 hs4 (by omega) (by omega) h _ _ _ hP hS (lv_sub hl [2, 3, 1, 0] rfl)

theorem ch_h {x2 : Nat} {S : CS} : ∀ (q k : Nat) (v : Int32), k ≤ x2 → x2 < k + q → v = sm (chf S) k → f_L_charges_h4 x2 q k S v = (sm (chf S) x2, S) := by
  intro q
  induction q with
  | zero => intro k v h1 h2; omega
  | succ q ih =>
    intro k v h1 h2 e
    rw [f_L_charges_h4]
    by_cases hk : x2 ≤ k
    · have ek : k = x2 := by omega
      subst ek
      rw [if_pos hk, e]
    · rw [if_neg hk]
      exact ih (k + 1) _ (by omega) (by omega) (by rw [e]; rfl)
theorem q_charges (l : Launch) (G : WG) (a : Nat → Nat) (ha : wInj 21 a) (x2 : Nat) (hx2 : x2 ≤ 3) (S : CS) (hs4 : S.1 4 = nI x2) (sz : Nat) : gMi l yL_charges wsL_charges ({ frames := 2, cells := 0, slots := 0, locals := 42 }) G 21 a (CW G.2 a) [.ref (a 0), .int (nI x2)] S sz (sm (chf S) x2, S) := by
  have h1 := c_L_charges l G a ha x2 hx2 S hs4 sz
  have e : f_L_charges x2 S = (sm (chf S) x2, S) := ch_h (x2 + 1) 0 0 (Nat.zero_le _) (by omega) rfl
  rw [e] at h1
  exact h1

def f_L_areSums_b67 (x2 : Nat) (x3 : Nat) (x4 : Int32) (K9 : Nat → CS → Int32 → Int32 × CS) (k9 : Nat) (S67 : CS) (v4_67 : Int32) : Int32 × CS := (K9 (k9 + 1) S67 v4_67)
def f_L_areSums_b128 (x2 : Nat) (x3 : Nat) (x4 : Int32) (K78 : Nat → CS → Int32 → Int32 × CS) (k78 : Nat) (S128 : CS) (v4_128 : Int32) : Int32 × CS := (K78 (k78 + 1) S128 v4_128)
def f_L_areSums_b184 (x2 : Nat) (x3 : Nat) (x4 : Int32) (S184 : CS) : Int32 × CS := (1, S184)
def f_L_areSums_h78 (x2 : Nat) (x3 : Nat) (x4 : Int32) : Nat → Nat → CS → Int32 → Int32 × CS
  | 0, _, S78, _ => (0, S78)
  | q + 1, k78, S78, v4_78 => (if x3 ≤ k78 then (f_L_areSums_b184 x2 x3 x4 S78) else (f_L_areSums_b128 x2 x3 x4 (f_L_areSums_h78 x2 x3 x4 q) k78 S78 v4_78))
def f_L_areSums_h9 (x2 : Nat) (x3 : Nat) (x4 : Int32) : Nat → Nat → CS → Int32 → Int32 × CS
  | 0, _, S9, _ => (0, S9)
  | q + 1, k9, S9, v4_9 => (if x2 ≤ k9 then (f_L_areSums_h78 x2 x3 x4 (x3 + 1) 0 S9 v4_9) else (f_L_areSums_b67 x2 x3 x4 (f_L_areSums_h9 x2 x3 x4 q) k9 S9 (v4_9 + (S9.2.1 k9 4))))
def f_L_areSums (x2 : Nat) (x3 : Nat) (x4 : Int32) (S : CS) : Int32 × CS := (f_L_areSums_h9 x2 x3 x4 (x2 + 1) 0 S 0)
set_option maxHeartbeats 4000000 in
set_option maxRecDepth 100000 in
theorem c_L_areSums (l : Launch) (G : WG) (a : Nat → Nat) (ha : wInj 21 a) (x2 : Nat) (hx2 : x2 ≤ 10) (x3 : Nat) (hx3 : x3 ≤ 3) (x4 : Int32) (S : CS) (hA : AS x2 x3 x4 S) (sz : Nat) : gMz l yL_areSums wsL_areSums ({ frames := 3, cells := 0, slots := 0, locals := 65 }) G 21 a (CW G.2 a) [.ref (a 0), .int (nI x2), .int (nI x3), .int x4] S sz (f_L_areSums x2 x3 x4 S) := by
  unfold gMz
  refine Met.ofW (cc := cL_areSums) (maxL := 7) (ret := (some .boolean)) (by decide) rfl ?_
  intro p e s m args below meth c s₁ B hml hv
  obtain ⟨rfl, rfl, hP, hK⟩ := hv
  have hx := B.exec
  have hb := B.bytes
  have hr := B.returns
  have hts := atoms_spec (ws := wsL_areSums) B.pre
  have hown : s.vm.findClass RL = some m.cls := findClass_of_methodNamed B.named
  have hlocks := B.notSynchronized
  have hS : va_S (wA 21 a s.heap.size) s.heap s.heap [] := va_S.rf
  have hl := lv_entry ([.ref (a 0), .int (nI x2), .int (nI x3), .int x4]) (n := 7) (Nat.le_of_ble_eq_true rfl)
  rw [lg_entry_eq]
  generalize (lg_sl ([.ref (a 0), .int (nI x2), .int (nI x3), .int x4] : List Value) ++ List.replicate (7 - (lg_sl ([.ref (a 0), .int (nI x2), .int (nI x3), .int x4] : List Value)).length) Slot.unset).toArray = ls at hl ⊢
  have hl : lv_has ls 7 [(0, .ref (a 0)), (1, .int (nI x2)), (2, .int (nI x3)), (3, .int x4)] := hl
  generalize hF : f_L_areSums x2 x3 x4 S = F
  have h : f_L_areSums x2 x3 x4 S = F := hF
  clear hF
  show W p l e ({ frames := 3, cells := 0, slots := 0, locals := 65 } : Room) s m ([.ref (a 0), .int (nI x2), .int (nI x3), .int x4] : List Value).toArray below meth c s.heap [] 0 0 (gQz below G (CW G.2 a) 21 a F ([.ref (a 0), .int (nI x2), .int (nI x3), .int x4] : List Value).toArray s) (F0 m 0 ls [])
  have L9 : ∀ (q9 : Nat) (k9 : Nat) (S9 : CS) (v4_9 : Int32), (AS x2 x3 x4 S9) → (v4_9 = sm (enf S9) k9) → k9 ≤ x2 → x2 < k9 + q9 → f_L_areSums_h9 x2 x3 x4 q9 k9 S9 v4_9 = F → ∀ (H : Heap) (locs : List Loc) (ls : Array Slot), wC G a S9 H → va_S (wA 21 a s.heap.size) s.heap H locs → lv_has ls 7 [(0, .ref (a 0)), (1, .int (nI x2)), (2, .int (nI x3)), (3, .int x4), (4, .int v4_9), (5, .int 1), (6, .int (nI k9))] → W p l e ({ frames := 3, cells := 0, slots := 0, locals := 65 } : Room) s m ([.ref (a 0), .int (nI x2), .int (nI x3), .int x4] : List Value).toArray below meth c H locs 0 0 (gQz below G (CW G.2 a) 21 a F ([.ref (a 0), .int (nI x2), .int (nI x3), .int x4] : List Value).toArray s) (F0 m 9 ls []) := by
    intro q9
    induction q9 with
    | zero => intro k9 S9 v4_9 hA hv hk9 hq9 h H locs ls hP hS hl; omega
    | succ q9 ih9 =>
      intro k9 S9 v4_9 hA hv hk9 hq9 h H locs ls hP hS hl
      have J67 : ∀ (S67 : CS) (v4_67 : Int32), (AS x2 x3 x4 S67) → (v4_67 = sm (enf S67) (k9 + 1)) → (k9 < x2) → f_L_areSums_b67 x2 x3 x4 (f_L_areSums_h9 x2 x3 x4 q9) k9 S67 v4_67 = F → ∀ (H : Heap) (locs : List Loc) (ls : Array Slot), wC G a S67 H → va_S (wA 21 a s.heap.size) s.heap H locs → lv_has ls 7 [(0, .ref (a 0)), (1, .int (nI x2)), (2, .int (nI x3)), (3, .int x4), (4, .int v4_67), (6, .int (nI k9))] → W p l e ({ frames := 3, cells := 0, slots := 0, locals := 65 } : Room) s m ([.ref (a 0), .int (nI x2), .int (nI x3), .int x4] : List Value).toArray below meth c H locs 0 0 (gQz below G (CW G.2 a) 21 a F ([.ref (a 0), .int (nI x2), .int (nI x3), .int x4] : List Value).toArray s) (F0 m 67 ls [.int 1]) := by
        intro S67 v4_67 hA hv hkb9 h H locs ls hP hS hl
        rewrite [f_L_areSums_b67] at h
        refine lv_istore (lv' := [(5, .int 1), (0, .ref (a 0)), (1, .int (nI x2)), (2, .int (nI x3)), (3, .int x4), (4, .int v4_67), (6, .int (nI k9))]) hx hb dL_areSums_67 hl (by decide) rfl (fun ls hl => ?_)
        refine lv_iinc (k := 6) (v := nI (k9 + 1)) (lv' := [(6, .int (nI (k9 + 1))), (5, .int 1), (0, .ref (a 0)), (1, .int (nI x2)), (2, .int (nI x3)), (3, .int x4), (4, .int v4_67)]) hx hb dL_areSums_69 hl rfl (nI_inc _) (by decide) rfl (fun ls hl => ?_)
        refine lv_goto (tgt := 9) hx hb dL_areSums_72 (by decide) ?_
        exact ih9 (k9 + 1) S67 v4_67 hA (by first | rfl | exact hv) (by omega) (by omega) h _ _ _ hP hS (lv_sub hl [2, 3, 4, 5, 6, 1, 0] rfl)
      have L78 : ∀ (q78 : Nat) (k78 : Nat) (S78 : CS) (v4_78 : Int32), (AS x2 x3 x4 S78) → (v4_78 = sm (enf S78) x2) → k78 ≤ x3 → x3 < k78 + q78 → f_L_areSums_h78 x2 x3 x4 q78 k78 S78 v4_78 = F → ∀ (H : Heap) (locs : List Loc) (ls : Array Slot), wC G a S78 H → va_S (wA 21 a s.heap.size) s.heap H locs → lv_has ls 7 [(0, .ref (a 0)), (2, .int (nI x3)), (3, .int x4), (4, .int v4_78), (5, .int 1), (6, .int (nI k78))] → W p l e ({ frames := 3, cells := 0, slots := 0, locals := 65 } : Room) s m ([.ref (a 0), .int (nI x2), .int (nI x3), .int x4] : List Value).toArray below meth c H locs 0 0 (gQz below G (CW G.2 a) 21 a F ([.ref (a 0), .int (nI x2), .int (nI x3), .int x4] : List Value).toArray s) (F0 m 78 ls []) := by
        intro q78
        induction q78 with
        | zero => intro k78 S78 v4_78 hA hv hk78 hq78 h H locs ls hP hS hl; omega
        | succ q78 ih78 =>
          intro k78 S78 v4_78 hA hv hk78 hq78 h H locs ls hP hS hl
          have J128 : ∀ (S128 : CS) (v4_128 : Int32), (AS x2 x3 x4 S128) → (v4_128 = sm (enf S128) x2) → (k78 < x3) → f_L_areSums_b128 x2 x3 x4 (f_L_areSums_h78 x2 x3 x4 q78) k78 S128 v4_128 = F → ∀ (H : Heap) (locs : List Loc) (ls : Array Slot), wC G a S128 H → va_S (wA 21 a s.heap.size) s.heap H locs → lv_has ls 7 [(0, .ref (a 0)), (2, .int (nI x3)), (3, .int x4), (4, .int v4_128), (6, .int (nI k78))] → W p l e ({ frames := 3, cells := 0, slots := 0, locals := 65 } : Room) s m ([.ref (a 0), .int (nI x2), .int (nI x3), .int x4] : List Value).toArray below meth c H locs 0 0 (gQz below G (CW G.2 a) 21 a F ([.ref (a 0), .int (nI x2), .int (nI x3), .int x4] : List Value).toArray s) (F0 m 128 ls [.int 1]) := by
            intro S128 v4_128 hA hv hkb78 h H locs ls hP hS hl
            rewrite [f_L_areSums_b128] at h
            refine lv_istore (lv' := [(5, .int 1), (0, .ref (a 0)), (2, .int (nI x3)), (3, .int x4), (4, .int v4_128), (6, .int (nI k78))]) hx hb dL_areSums_128 hl (by decide) rfl (fun ls hl => ?_)
            refine lv_iinc (k := 5) (v := nI (k78 + 1)) (lv' := [(6, .int (nI (k78 + 1))), (5, .int 1), (0, .ref (a 0)), (2, .int (nI x3)), (3, .int x4), (4, .int v4_128)]) hx hb dL_areSums_130 hl rfl (nI_inc _) (by decide) rfl (fun ls hl => ?_)
            refine lv_goto (tgt := 78) hx hb dL_areSums_133 (by decide) ?_
            exact ih78 (k78 + 1) S128 v4_128 hA (by first | exact hv | (have e9 : k9 = x2 := (by omega); rw [← e9]; exact hv)) (by omega) (by omega) h _ _ _ hP hS (lv_sub hl [2, 3, 4, 5, 1, 0] rfl)
          have J184 : ∀ (S184 : CS), f_L_areSums_b184 x2 x3 x4 S184 = F → ∀ (H : Heap) (locs : List Loc) (ls : Array Slot), wC G a S184 H → va_S (wA 21 a s.heap.size) s.heap H locs → lv_has ls 7 [] → W p l e ({ frames := 3, cells := 0, slots := 0, locals := 65 } : Room) s m ([.ref (a 0), .int (nI x2), .int (nI x3), .int x4] : List Value).toArray below meth c H locs 0 0 (gQz below G (CW G.2 a) 21 a F ([.ref (a 0), .int (nI x2), .int (nI x3), .int x4] : List Value).toArray s) (F0 m 184 ls [.int 1]) := by
            intro S184 h H locs ls hP hS hl
            rewrite [f_L_areSums_b184] at h
            exact gRz (wf := CW G.2 a) (S := S184) hx hb hr hlocks isB_1 hP hS h dL_areSums_184
          rewrite [f_L_areSums_h78] at h
          refine lv_iload hx hb dL_areSums_78 (lv_at hl 5 rfl) ?_
          refine lv_iload_n hx hb dL_areSums_80 rfl (lv_at hl 1 rfl) ?_
          refine lv_icmp_ge (tgt := 136) hx hb dL_areSums_81 (by decide) (fun c81 => ?_) (fun c81 => ?_)
          · have c81 : x3 ≤ k78 := (nI_leI (a := x3) (b := k78) (by omega) (by omega)).mp c81
            rewrite [if_pos c81] at h
            refine lv_iload hx hb dL_areSums_136 (lv_at hl 4 rfl) ?_
            refine lv_if_eq (tgt := 183) hx hb dL_areSums_138 (by decide) (fun c138 => ?_) (fun c138 => ?_)
            · exact absurd c138 (by decide)
            · refine lv_iload hx hb dL_areSums_141 (lv_at hl 3 rfl) ?_
              refine lv_aload_n hx hb dL_areSums_143 rfl (lv_at hl 0 rfl) ?_
              refine gcVi0 (wf := CW G.2 a) (N := 21) (ad := a) (As := []) (rest := [.int v4_78]) (S := S78) (v := S78.1 12) (S' := S78) ⟨hx, hb, hml, hown, hts⟩ hK hP hS (c_X3_fromMains l G a ha  S78 _) (cwV 0 hts gL_areSums_X3_fromMains rfl rfl rfl (by decide +kernel) ⟨Nat.le_of_ble_eq_true rfl, Nat.le_of_ble_eq_true rfl⟩) (crM hK hP) rfl hl.1 rfl (Nat.le_of_ble_eq_true rfl) dL_areSums_144 ⟨Nat.le_of_ble_eq_true rfl, Nat.le_of_ble_eq_true rfl⟩ (fun H locs hP hS => ?_)
              refine lv_aload_n hx hb dL_areSums_147 rfl (lv_at hl 0 rfl) ?_
              refine gcVi0 (wf := CW G.2 a) (N := 21) (ad := a) (As := []) (rest := [.int (S78.1 12), .int v4_78]) (S := S78) (v := S78.1 13) (S' := S78) ⟨hx, hb, hml, hown, hts⟩ hK hP hS (c_X3_fromGenerators l G a ha  S78 _) (cwV 0 hts gL_areSums_X3_fromGenerators rfl rfl rfl (by decide +kernel) ⟨Nat.le_of_ble_eq_true rfl, Nat.le_of_ble_eq_true rfl⟩) (crM hK hP) rfl hl.1 rfl (Nat.le_of_ble_eq_true rfl) dL_areSums_148 ⟨Nat.le_of_ble_eq_true rfl, Nat.le_of_ble_eq_true rfl⟩ (fun H locs hP hS => ?_)
              refine lv_iadd hx hb dL_areSums_151 ?_
              refine lv_aload_n hx hb dL_areSums_152 rfl (lv_at hl 0 rfl) ?_
              refine gcVi0 (wf := CW G.2 a) (N := 21) (ad := a) (As := []) (rest := [.int ((S78.1 12) + (S78.1 13)), .int v4_78]) (S := S78) (v := S78.1 14) (S' := S78) ⟨hx, hb, hml, hown, hts⟩ hK hP hS (c_X3_fromBatteries l G a ha  S78 _) (cwV 0 hts gL_areSums_X3_fromBatteries rfl rfl rfl (by decide +kernel) ⟨Nat.le_of_ble_eq_true rfl, Nat.le_of_ble_eq_true rfl⟩) (crM hK hP) rfl hl.1 rfl (Nat.le_of_ble_eq_true rfl) dL_areSums_153 ⟨Nat.le_of_ble_eq_true rfl, Nat.le_of_ble_eq_true rfl⟩ (fun H locs hP hS => ?_)
              refine lv_iadd hx hb dL_areSums_156 ?_
              refine lv_icmp_ne (tgt := 183) hx hb dL_areSums_157 (by decide) (fun c157 => ?_) (fun c157 => ?_)
              · exact absurd (hv.trans hA.2.2.2.2.1) c157
              · refine lv_aload_n hx hb dL_areSums_160 rfl (lv_at hl 0 rfl) ?_
                refine lv_iload_n hx hb dL_areSums_161 rfl (lv_at hl 1 rfl) ?_
                refine gcSi0 (wf := CW G.2 a) (N := 21) (ad := a) (As := [.ref (a 0), .int (nI x3)]) (rest := []) (S := S78) (v := sm (chf S78) x3) (S' := S78) ⟨hx, hb, hml, hown, hts⟩ hK hP hS (q_charges l G a ha x3 (by omega) S78 hA.2.1 _) (va_cwS 2 hts gL_areSums_L_charges rfl rfl rfl (by decide +kernel) ⟨Nat.le_of_ble_eq_true rfl, Nat.le_of_ble_eq_true rfl⟩) rfl hl.1 rfl (Nat.le_of_ble_eq_true rfl) dL_areSums_162 ⟨Nat.le_of_ble_eq_true rfl, Nat.le_of_ble_eq_true rfl⟩ (fun H locs hP hS => ?_)
                refine lv_iload_n hx hb dL_areSums_165 rfl (lv_at hl 2 rfl) ?_
                refine lv_aload_n hx hb dL_areSums_166 rfl (lv_at hl 0 rfl) ?_
                refine gcVi0 (wf := CW G.2 a) (N := 21) (ad := a) (As := []) (rest := [.int x4, .int (sm (chf S78) x3)]) (S := S78) (v := S78.1 15) (S' := S78) ⟨hx, hb, hml, hown, hts⟩ hK hP hS (c_X3_intoBatteries l G a ha  S78 _) (cwV 0 hts gL_areSums_X3_intoBatteries rfl rfl rfl (by decide +kernel) ⟨Nat.le_of_ble_eq_true rfl, Nat.le_of_ble_eq_true rfl⟩) (crM hK hP) rfl hl.1 rfl (Nat.le_of_ble_eq_true rfl) dL_areSums_167 ⟨Nat.le_of_ble_eq_true rfl, Nat.le_of_ble_eq_true rfl⟩ (fun H locs hP hS => ?_)
                refine lv_iadd hx hb dL_areSums_170 ?_
                refine lv_aload_n hx hb dL_areSums_171 rfl (lv_at hl 0 rfl) ?_
                refine gcVi0 (wf := CW G.2 a) (N := 21) (ad := a) (As := []) (rest := [.int (x4 + (S78.1 15)), .int (sm (chf S78) x3)]) (S := S78) (v := S78.1 14) (S' := S78) ⟨hx, hb, hml, hown, hts⟩ hK hP hS (c_X3_fromBatteries l G a ha  S78 _) (cwV 0 hts gL_areSums_X3_fromBatteries rfl rfl rfl (by decide +kernel) ⟨Nat.le_of_ble_eq_true rfl, Nat.le_of_ble_eq_true rfl⟩) (crM hK hP) rfl hl.1 rfl (Nat.le_of_ble_eq_true rfl) dL_areSums_172 ⟨Nat.le_of_ble_eq_true rfl, Nat.le_of_ble_eq_true rfl⟩ (fun H locs hP hS => ?_)
                refine lv_isub hx hb dL_areSums_175 ?_
                refine lv_icmp_ne (tgt := 183) hx hb dL_areSums_176 (by decide) (fun c176 => ?_) (fun c176 => ?_)
                · exact absurd hA.2.2.2.2.2 c176
                · refine lv_iconst (v := 1) hx hb dL_areSums_179 (by decide) ?_
                  refine lv_goto (tgt := 184) hx hb dL_areSums_180 (by decide) ?_
                  exact J184 S78 h _ _ _ hP hS (lv_sub hl [] rfl)
          · have c81 : ¬ x3 ≤ k78 := fun z => c81 ((nI_leI (a := x3) (b := k78) (by omega) (by omega)).mpr z)
            rewrite [if_neg c81] at h
            refine lv_iload hx hb dL_areSums_84 (lv_at hl 4 rfl) ?_
            refine lv_if_eq (tgt := 127) hx hb dL_areSums_86 (by decide) (fun c86 => ?_) (fun c86 => ?_)
            · exact absurd c86 (by decide)
            · refine lv_aload_n hx hb dL_areSums_89 rfl (lv_at hl 0 rfl) ?_
              refine lv_iload hx hb dL_areSums_90 (lv_at hl 5 rfl) ?_
              refine gcVi0 (wf := CW G.2 a) (N := 21) (ad := a) (As := [.int (nI k78)]) (rest := []) (S := S78) (v := S78.2.2.1 k78 1) (S' := S78) ⟨hx, hb, hml, hown, hts⟩ hK hP hS (c_X3_chargeOf l G a ha k78 (by omega) S78 ⟨x3, by omega, hx3, hA.2.1⟩ _) (cwV 1 hts gL_areSums_X3_chargeOf rfl rfl rfl (by decide +kernel) ⟨Nat.le_of_ble_eq_true rfl, Nat.le_of_ble_eq_true rfl⟩) (crM hK hP) rfl hl.1 rfl (Nat.le_of_ble_eq_true rfl) dL_areSums_92 ⟨Nat.le_of_ble_eq_true rfl, Nat.le_of_ble_eq_true rfl⟩ (fun H locs hP hS => ?_)
              refine lv_if_lt (tgt := 127) hx hb dL_areSums_95 (by decide) (fun c95 => ?_) (fun c95 => ?_)
              · exact absurd c95 (hA.2.2.2.1 k78 (by omega)).1
              · refine lv_aload_n hx hb dL_areSums_98 rfl (lv_at hl 0 rfl) ?_
                refine lv_iload hx hb dL_areSums_99 (lv_at hl 5 rfl) ?_
                refine gcVi0 (wf := CW G.2 a) (N := 21) (ad := a) (As := [.int (nI k78)]) (rest := []) (S := S78) (v := S78.2.2.1 k78 1) (S' := S78) ⟨hx, hb, hml, hown, hts⟩ hK hP hS (c_X3_chargeOf l G a ha k78 (by omega) S78 ⟨x3, by omega, hx3, hA.2.1⟩ _) (cwV 1 hts gL_areSums_X3_chargeOf rfl rfl rfl (by decide +kernel) ⟨Nat.le_of_ble_eq_true rfl, Nat.le_of_ble_eq_true rfl⟩) (crM hK hP) rfl hl.1 rfl (Nat.le_of_ble_eq_true rfl) dL_areSums_101 ⟨Nat.le_of_ble_eq_true rfl, Nat.le_of_ble_eq_true rfl⟩ (fun H locs hP hS => ?_)
                refine lv_aload_n hx hb dL_areSums_104 rfl (lv_at hl 0 rfl) ?_
                refine lv_iload hx hb dL_areSums_105 (lv_at hl 5 rfl) ?_
                refine gcVi0 (wf := CW G.2 a) (N := 21) (ad := a) (As := [.int (nI k78)]) (rest := [.int (S78.2.2.1 k78 1)]) (S := S78) (v := S78.2.2.1 k78 0) (S' := S78) ⟨hx, hb, hml, hown, hts⟩ hK hP hS (c_X3_capacityOf l G a ha k78 (by omega) S78 ⟨x3, by omega, hx3, hA.2.1⟩ _) (cwV 1 hts gL_areSums_X3_capacityOf rfl rfl rfl (by decide +kernel) ⟨Nat.le_of_ble_eq_true rfl, Nat.le_of_ble_eq_true rfl⟩) (crM hK hP) rfl hl.1 rfl (Nat.le_of_ble_eq_true rfl) dL_areSums_107 ⟨Nat.le_of_ble_eq_true rfl, Nat.le_of_ble_eq_true rfl⟩ (fun H locs hP hS => ?_)
                refine lv_icmp_gt (tgt := 127) hx hb dL_areSums_110 (by decide) (fun c110 => ?_) (fun c110 => ?_)
                · exact absurd c110 (hA.2.2.2.1 k78 (by omega)).2.1
                · refine lv_aload_n hx hb dL_areSums_113 rfl (lv_at hl 0 rfl) ?_
                  refine lv_iload hx hb dL_areSums_114 (lv_at hl 5 rfl) ?_
                  refine gcVi0 (wf := CW G.2 a) (N := 21) (ad := a) (As := [.int (nI k78)]) (rest := []) (S := S78) (v := S78.2.2.1 k78 0) (S' := S78) ⟨hx, hb, hml, hown, hts⟩ hK hP hS (c_X3_capacityOf l G a ha k78 (by omega) S78 ⟨x3, by omega, hx3, hA.2.1⟩ _) (cwV 1 hts gL_areSums_X3_capacityOf rfl rfl rfl (by decide +kernel) ⟨Nat.le_of_ble_eq_true rfl, Nat.le_of_ble_eq_true rfl⟩) (crM hK hP) rfl hl.1 rfl (Nat.le_of_ble_eq_true rfl) dL_areSums_116 ⟨Nat.le_of_ble_eq_true rfl, Nat.le_of_ble_eq_true rfl⟩ (fun H locs hP hS => ?_)
                  refine lv_iconst (v := 1) hx hb dL_areSums_119 (by decide) ?_
                  refine lv_icmp_lt (tgt := 127) hx hb dL_areSums_120 (by decide) (fun c120 => ?_) (fun c120 => ?_)
                  · exact absurd c120 (hA.2.2.2.1 k78 (by omega)).2.2
                  · refine lv_iconst (v := 1) hx hb dL_areSums_123 (by decide) ?_
                    refine lv_goto (tgt := 128) hx hb dL_areSums_124 (by decide) ?_
                    exact J128 S78 v4_78 hA hv (by omega) h _ _ _ hP hS (lv_sub hl [0, 1, 2, 3, 5] rfl)
      rewrite [f_L_areSums_h9] at h
      refine lv_iload hx hb dL_areSums_9 (lv_at hl 6 rfl) ?_
      refine lv_iload_n hx hb dL_areSums_11 rfl (lv_at hl 1 rfl) ?_
      refine lv_icmp_ge (tgt := 75) hx hb dL_areSums_12 (by decide) (fun c12 => ?_) (fun c12 => ?_)
      · have c12 : x2 ≤ k9 := (nI_leI (a := x2) (b := k9) (by omega) (by omega)).mp c12
        rewrite [if_pos c12] at h
        refine lv_iconst (v := 0) hx hb dL_areSums_75 (by decide) ?_
        refine lv_istore (lv' := [(6, .int 0), (0, .ref (a 0)), (1, .int (nI x2)), (2, .int (nI x3)), (3, .int x4), (4, .int v4_9), (5, .int 1)]) hx hb dL_areSums_76 hl (by decide) rfl (fun ls hl => ?_)
        exact L78 (x3 + 1) 0 S9 v4_9 hA (by first | exact hv | (have e9 : k9 = x2 := (by omega); rw [← e9]; exact hv)) (by omega) (by omega) h _ _ _ hP hS (lv_sub hl [1, 3, 4, 5, 6, 0] rfl)
      · have c12 : ¬ x2 ≤ k9 := fun z => c12 ((nI_leI (a := x2) (b := k9) (by omega) (by omega)).mpr z)
        rewrite [if_neg c12] at h
        refine lv_iload hx hb dL_areSums_15 (lv_at hl 4 rfl) ?_
        refine lv_aload_n hx hb dL_areSums_17 rfl (lv_at hl 0 rfl) ?_
        refine lv_iload hx hb dL_areSums_18 (lv_at hl 6 rfl) ?_
        refine gcVi0 (wf := CW G.2 a) (N := 21) (ad := a) (As := [.int (nI k9)]) (rest := [.int v4_9]) (S := S9) (v := S9.2.1 k9 4) (S' := S9) ⟨hx, hb, hml, hown, hts⟩ hK hP hS (c_X3_energyOf l G a ha k9 (by omega) S9 ⟨x2, by omega, hx2, hA.1⟩ _) (cwV 1 hts gL_areSums_X3_energyOf rfl rfl rfl (by decide +kernel) ⟨Nat.le_of_ble_eq_true rfl, Nat.le_of_ble_eq_true rfl⟩) (crM hK hP) rfl hl.1 rfl (Nat.le_of_ble_eq_true rfl) dL_areSums_20 ⟨Nat.le_of_ble_eq_true rfl, Nat.le_of_ble_eq_true rfl⟩ (fun H locs hP hS => ?_)
        refine lv_iadd hx hb dL_areSums_23 ?_
        refine lv_istore (lv' := [(4, .int (v4_9 + (S9.2.1 k9 4))), (0, .ref (a 0)), (1, .int (nI x2)), (2, .int (nI x3)), (3, .int x4), (5, .int 1), (6, .int (nI k9))]) hx hb dL_areSums_24 hl (by decide) rfl (fun ls hl => ?_)
        refine lv_iload hx hb dL_areSums_26 (lv_at hl 5 rfl) ?_
        refine lv_if_eq (tgt := 66) hx hb dL_areSums_28 (by decide) (fun c28 => ?_) (fun c28 => ?_)
        · exact absurd c28 (by decide)
        · refine lv_aload_n hx hb dL_areSums_31 rfl (lv_at hl 1 rfl) ?_
          refine lv_iload hx hb dL_areSums_32 (lv_at hl 6 rfl) ?_
          refine gcVi0 (wf := CW G.2 a) (N := 21) (ad := a) (As := [.int (nI k9)]) (rest := []) (S := S9) (v := S9.2.1 k9 4) (S' := S9) ⟨hx, hb, hml, hown, hts⟩ hK hP hS (c_X3_energyOf l G a ha k9 (by omega) S9 ⟨x2, by omega, hx2, hA.1⟩ _) (cwV 1 hts gL_areSums_X3_energyOf rfl rfl rfl (by decide +kernel) ⟨Nat.le_of_ble_eq_true rfl, Nat.le_of_ble_eq_true rfl⟩) (crM hK hP) rfl hl.1 rfl (Nat.le_of_ble_eq_true rfl) dL_areSums_34 ⟨Nat.le_of_ble_eq_true rfl, Nat.le_of_ble_eq_true rfl⟩ (fun H locs hP hS => ?_)
          refine lv_if_lt (tgt := 66) hx hb dL_areSums_37 (by decide) (fun c37 => ?_) (fun c37 => ?_)
          · exact absurd c37 (hA.2.2.1 k9 (by omega)).1
          · refine lv_aload_n hx hb dL_areSums_40 rfl (lv_at hl 1 rfl) ?_
            refine lv_iload hx hb dL_areSums_41 (lv_at hl 6 rfl) ?_
            refine gcVi0 (wf := CW G.2 a) (N := 21) (ad := a) (As := [.int (nI k9)]) (rest := []) (S := S9) (v := S9.2.1 k9 5) (S' := S9) ⟨hx, hb, hml, hown, hts⟩ hK hP hS (c_X3_darkMinutes l G a ha k9 (by omega) S9 ⟨x2, by omega, hx2, hA.1⟩ _) (cwV 1 hts gL_areSums_X3_darkMinutes rfl rfl rfl (by decide +kernel) ⟨Nat.le_of_ble_eq_true rfl, Nat.le_of_ble_eq_true rfl⟩) (crM hK hP) rfl hl.1 rfl (Nat.le_of_ble_eq_true rfl) dL_areSums_43 ⟨Nat.le_of_ble_eq_true rfl, Nat.le_of_ble_eq_true rfl⟩ (fun H locs hP hS => ?_)
            refine lv_if_lt (tgt := 66) hx hb dL_areSums_46 (by decide) (fun c46 => ?_) (fun c46 => ?_)
            · exact absurd c46 (hA.2.2.1 k9 (by omega)).2.1
            · refine lv_aload_n hx hb dL_areSums_49 rfl (lv_at hl 1 rfl) ?_
              refine lv_iload hx hb dL_areSums_50 (lv_at hl 6 rfl) ?_
              refine gcVi0 (wf := CW G.2 a) (N := 21) (ad := a) (As := [.int (nI k9)]) (rest := []) (S := S9) (v := S9.2.1 k9 5) (S' := S9) ⟨hx, hb, hml, hown, hts⟩ hK hP hS (c_X3_darkMinutes l G a ha k9 (by omega) S9 ⟨x2, by omega, hx2, hA.1⟩ _) (cwV 1 hts gL_areSums_X3_darkMinutes rfl rfl rfl (by decide +kernel) ⟨Nat.le_of_ble_eq_true rfl, Nat.le_of_ble_eq_true rfl⟩) (crM hK hP) rfl hl.1 rfl (Nat.le_of_ble_eq_true rfl) dL_areSums_52 ⟨Nat.le_of_ble_eq_true rfl, Nat.le_of_ble_eq_true rfl⟩ (fun H locs hP hS => ?_)
              refine lv_aload_n hx hb dL_areSums_55 rfl (lv_at hl 1 rfl) ?_
              refine gcVi0 (wf := CW G.2 a) (N := 21) (ad := a) (As := []) (rest := [.int (S9.2.1 k9 5)]) (S := S9) (v := S9.1 7) (S' := S9) ⟨hx, hb, hml, hown, hts⟩ hK hP hS (c_X3_time l G a ha  S9 _) (cwV 0 hts gL_areSums_X3_time rfl rfl rfl (by decide +kernel) ⟨Nat.le_of_ble_eq_true rfl, Nat.le_of_ble_eq_true rfl⟩) (crM hK hP) rfl hl.1 rfl (Nat.le_of_ble_eq_true rfl) dL_areSums_56 ⟨Nat.le_of_ble_eq_true rfl, Nat.le_of_ble_eq_true rfl⟩ (fun H locs hP hS => ?_)
              refine lv_icmp_gt (tgt := 66) hx hb dL_areSums_59 (by decide) (fun c59 => ?_) (fun c59 => ?_)
              · exact absurd c59 (hA.2.2.1 k9 (by omega)).2.2
              · refine lv_iconst (v := 1) hx hb dL_areSums_62 (by decide) ?_
                refine lv_goto (tgt := 67) hx hb dL_areSums_63 (by decide) ?_
                exact J67 S9 (v4_9 + (S9.2.1 k9 4)) hA (by rw [hv]; rfl) (by omega) h _ _ _ hP hS (lv_sub hl [1, 2, 3, 4, 0, 6] rfl)
  rewrite [f_L_areSums] at h
  refine lv_iconst (v := 0) hx hb dL_areSums_0 (by decide) ?_
  refine lv_istore (lv' := [(4, .int 0), (0, .ref (a 0)), (1, .int (nI x2)), (2, .int (nI x3)), (3, .int x4)]) hx hb dL_areSums_1 hl (by decide) rfl (fun ls hl => ?_)
  refine lv_iconst (v := 1) hx hb dL_areSums_3 (by decide) ?_
  refine lv_istore (lv' := [(5, .int 1), (4, .int 0), (0, .ref (a 0)), (1, .int (nI x2)), (2, .int (nI x3)), (3, .int x4)]) hx hb dL_areSums_4 hl (by decide) rfl (fun ls hl => ?_)
  refine lv_iconst (v := 0) hx hb dL_areSums_6 (by decide) ?_
  refine lv_istore (lv' := [(6, .int 0), (5, .int 1), (4, .int 0), (0, .ref (a 0)), (1, .int (nI x2)), (2, .int (nI x3)), (3, .int x4)]) hx hb dL_areSums_7 hl (by decide) rfl (fun ls hl => ?_)
  exact L9 (x2 + 1) 0 S 0 hA (by first | rfl | exact hv) (by omega) (by omega) h _ _ _ hP hS (lv_sub hl [3, 4, 5, 6, 2, 1, 0] rfl)

