def f_X4_addLoad_b91 (n : Nat × Nat × Nat) (x1 : Int32) (x2 : Int32) (S91 : MS) (s2_91 : Int32) : Int32 × ((Nat × Nat × Nat) × MS) := ((nI (n.1 + 1)) - 1, (((n.1 + 1), n.2.1, n.2.2), (muA S91 3 n.1 s2_91)))
def f_X4_addLoad_b39 (n : Nat × Nat × Nat) (x1 : Int32) (x2 : Int32) (S39 : MS) (s1_39 : Int32) : Int32 × ((Nat × Nat × Nat) × MS) := (if ((muS S39 0 s1_39).1 0) ≤ 0 then (if ((muA (muA (muS S39 0 s1_39) 1 n.1 x1) 2 n.1 x2).1 2) = 0 then (f_X4_addLoad_b91 n x1 x2 (muA (muA (muS S39 0 s1_39) 1 n.1 x1) 2 n.1 x2) 2) else (f_X4_addLoad_b91 n x1 x2 (muA (muA (muS S39 0 s1_39) 1 n.1 x1) 2 n.1 x2) 1)) else (0, (n, (muS S39 0 s1_39))))
def f_X4_addLoad_b21 (n : Nat × Nat × Nat) (x1 : Int32) (x2 : Int32) (S21 : MS) : Int32 × ((Nat × Nat × Nat) × MS) := (f_X4_addLoad_b39 n x1 x2 S21 1)
def f_X4_addLoad_c15 (n : Nat × Nat × Nat) (x1 : Int32) (x2 : Int32) (p15 : Int32 × MS) : Int32 × ((Nat × Nat × Nat) × MS) := (if p15.1 = 0 then (f_X4_addLoad_b21 n x1 x2 p15.2) else (if (nI n.1) = 10 then (f_X4_addLoad_b39 n x1 x2 p15.2 2) else (f_X4_addLoad_b39 n x1 x2 p15.2 0)))
def f_X4_addLoad_c4 (n : Nat × Nat × Nat) (x1 : Int32) (x2 : Int32) (p4 : Int32 × MS) : Int32 × ((Nat × Nat × Nat) × MS) := (if p4.1 = 0 then (f_X4_addLoad_b21 n x1 x2 p4.2) else (f_X4_addLoad_c15 n x1 x2 (f_X4_in n x2 1 500 p4.2)))
def f_X4_addLoad (n : Nat × Nat × Nat) (x1 : Int32) (x2 : Int32) (S : MS) : Int32 × ((Nat × Nat × Nat) × MS) := (f_X4_addLoad_c4 n x1 x2 (f_X4_in n x1 1 5 S))
set_option maxHeartbeats 4000000 in
set_option maxRecDepth 100000 in
theorem c_X4_addLoad (l : Launch) (G : WG) (b : Nat → Nat) (ha : wInj 27 b) (n : Nat × Nat × Nat) (hn : n.1 ≤ 10 ∧ n.2.1 ≤ 3 ∧ n.2.2 ≤ 3) (x1 : Int32) (x2 : Int32) (S : MS) (sz : Nat) : gMi l yX4_addLoad wsX4_addLoad ({ frames := 1, cells := 0, slots := 0, locals := 22 }) G 27 b (fun q : (Nat × Nat × Nat) × MS => MW G.2 b q.1 q.2) [.ref (b 0), .int x1, .int x2] (n, S) sz (f_X4_addLoad n x1 x2 S) := by
  unfold gMi
  refine Met.ofW (cc := cX4_addLoad) (maxL := 3) (ret := (some .int)) (by decide) rfl ?_
  intro p e s m args below meth c s₁ B hml hv
  obtain ⟨rfl, rfl, hP, hK⟩ := hv
  have hx := B.exec
  have hb := B.bytes
  have hr := B.returns
  have hts := atoms_spec (ws := wsX4_addLoad) B.pre
  have hown : s.vm.findClass RX4 = some m.cls := findClass_of_methodNamed B.named
  have hlocks := B.notSynchronized
  have hS : va_S (wA 27 b s.heap.size) s.heap s.heap [] := va_S.rf
  have hw4 : ∀ w ∈ wsX40, w.before ([.ref (b 0), .int x1, .int x2] : List Value).toArray s = true := fun w hw => hts w ((by decide +kernel : ∀ w ∈ wsX40, w ∈ wsX4_addLoad) w hw)
  have hl := lv_entry ([.ref (b 0), .int x1, .int x2]) (n := 3) (Nat.le_of_ble_eq_true rfl)
  rw [lg_entry_eq]
  generalize (lg_sl ([.ref (b 0), .int x1, .int x2] : List Value) ++ List.replicate (3 - (lg_sl ([.ref (b 0), .int x1, .int x2] : List Value)).length) Slot.unset).toArray = ls at hl ⊢
  have hl : lv_has ls 3 [(0, .ref (b 0)), (1, .int x1), (2, .int x2)] := hl
  generalize hF : f_X4_addLoad n x1 x2 S = F
  have h : f_X4_addLoad n x1 x2 S = F := hF
  clear hF
  show W p l e ({ frames := 1, cells := 0, slots := 0, locals := 22 } : Room) s m ([.ref (b 0), .int x1, .int x2] : List Value).toArray below meth c s.heap [] 0 0 (gQi below G (fun q : (Nat × Nat × Nat) × MS => MW G.2 b q.1 q.2) 27 b F ([.ref (b 0), .int x1, .int x2] : List Value).toArray s) (F0 m 0 ls [])
  have J39 : ∀ (S39 : MS) (s1_39 : Int32), (s1_39 ≤ 0 → n.1 < 10) → f_X4_addLoad_b39 n x1 x2 S39 s1_39 = F → ∀ (H : Heap) (locs : List Loc) (ls : Array Slot), wM G b n S39 H → va_S (wA 27 b s.heap.size) s.heap H locs → lv_has ls 3 [(0, .ref (b 0)), (1, .int x1), (2, .int x2)] → W p l e ({ frames := 1, cells := 0, slots := 0, locals := 22 } : Room) s m ([.ref (b 0), .int x1, .int x2] : List Value).toArray below meth c H locs 0 0 (gQi below G (fun q : (Nat × Nat × Nat) × MS => MW G.2 b q.1 q.2) 27 b F ([.ref (b 0), .int x1, .int x2] : List Value).toArray s) (F0 m 39 ls [.int s1_39, .ref (b 0)]) := by
    intro S39 s1_39 hj39 h H locs ls hP hS hl
    have J91 : ∀ (S91 : MS) (s2_91 : Int32), (n.1 < 10) → f_X4_addLoad_b91 n x1 x2 S91 s2_91 = F → ∀ (H : Heap) (locs : List Loc) (ls : Array Slot), wM G b n S91 H → va_S (wA 27 b s.heap.size) s.heap H locs → lv_has ls 3 [(0, .ref (b 0))] → W p l e ({ frames := 1, cells := 0, slots := 0, locals := 22 } : Room) s m ([.ref (b 0), .int x1, .int x2] : List Value).toArray below meth c H locs 0 0 (gQi below G (fun q : (Nat × Nat × Nat) × MS => MW G.2 b q.1 q.2) 27 b F ([.ref (b 0), .int x1, .int x2] : List Value).toArray s) (F0 m 91 ls [.int s2_91, .int (nI n.1), .ref (b 3)]) := by
      intro S91 s2_91 hlt h H locs ls hP hS hl
      rewrite [f_X4_addLoad_b91] at h
      refine mst hx hb hK ha hP hS 3 (by decide) (show n.1 < 10 by omega) dX4_addLoad_91 (fun H locs hP hS => ?_)
      refine lv_aload_n hx hb dX4_addLoad_92 rfl (lv_at hl 0 rfl) ?_
      refine lv_dup hx hb dX4_addLoad_93 rfl ?_
      refine mg hx hb hw4 hown hK hP 7 (by decide) (v := .int (nI n.1)) rfl (hts (.fieldLink RX4 106 "BackupPowerModel" "loadMany" "I") (by decide +kernel)) dX4_addLoad_94 ?_
      refine lv_iconst (v := 1) hx hb dX4_addLoad_97 (by decide) ?_
      refine lv_iadd hx hb dX4_addLoad_98 ?_
      refine mpN (n' := ((n.1 + 1), n.2.1, n.2.2)) hx hb hw4 hown hK ha hP hS 7 (by decide) rfl okI (v := (nI n.1) + 1) mfO_n7 mfO_ne7 (hts (.fieldLink RX4 106 "BackupPowerModel" "loadMany" "I") (by decide +kernel)) dX4_addLoad_99 (fun H locs hP hS => ?_)
      refine lv_aload_n hx hb dX4_addLoad_102 rfl (lv_at hl 0 rfl) ?_
      refine mg hx hb hw4 hown hK hP 7 (by decide) (v := .int (nI (n.1 + 1))) rfl (hts (.fieldLink RX4 106 "BackupPowerModel" "loadMany" "I") (by decide +kernel)) dX4_addLoad_103 ?_
      refine lv_iconst (v := 1) hx hb dX4_addLoad_106 (by decide) ?_
      refine lv_isub hx hb dX4_addLoad_107 ?_
      exact gRi (wf := fun q : (Nat × Nat × Nat) × MS => MW G.2 b q.1 q.2) (S := (((n.1 + 1), n.2.1, n.2.2), (muA S91 3 n.1 s2_91))) hx hb hr hlocks hP hS h dX4_addLoad_108
    rewrite [f_X4_addLoad_b39] at h
    refine mp hx hb hw4 hown hK ha hP hS 0 (by decide) rfl rfl okI (hts (.fieldLink RX4 103 "BackupPowerModel" "thrown" "I") (by decide +kernel)) dX4_addLoad_39 (fun H locs hP hS => ?_)
    refine lv_aload_n hx hb dX4_addLoad_42 rfl (lv_at hl 0 rfl) ?_
    refine mg hx hb hw4 hown hK hP 0 (by decide) (v := .int ((muS S39 0 s1_39).1 0)) rfl (hts (.fieldLink RX4 103 "BackupPowerModel" "thrown" "I") (by decide +kernel)) dX4_addLoad_43 ?_
    refine lv_if_le (tgt := 51) hx hb dX4_addLoad_46 (by decide) (fun c46 => ?_) (fun c46 => ?_)
    · rewrite [if_pos c46] at h
      have hlt : n.1 < 10 := hj39 (by simpa [muS, up1] using c46)
      refine lv_aload_n hx hb dX4_addLoad_51 rfl (lv_at hl 0 rfl) ?_
      refine mg hx hb hw4 hown hK hP 8 (by decide) (v := .ref (b 1)) rfl (hts (.fieldLink RX4 23 "BackupPowerModel" "ranks" "[I") (by decide +kernel)) dX4_addLoad_52 ?_
      refine lv_aload_n hx hb dX4_addLoad_55 rfl (lv_at hl 0 rfl) ?_
      refine mg hx hb hw4 hown hK hP 7 (by decide) (v := .int (nI n.1)) rfl (hts (.fieldLink RX4 106 "BackupPowerModel" "loadMany" "I") (by decide +kernel)) dX4_addLoad_56 ?_
      refine lv_iload_n hx hb dX4_addLoad_59 rfl (lv_at hl 1 rfl) ?_
      refine mst hx hb hK ha hP hS 1 (by decide) (show n.1 < 10 by omega) dX4_addLoad_60 (fun H locs hP hS => ?_)
      refine lv_aload_n hx hb dX4_addLoad_61 rfl (lv_at hl 0 rfl) ?_
      refine mg hx hb hw4 hown hK hP 9 (by decide) (v := .ref (b 2)) rfl (hts (.fieldLink RX4 27 "BackupPowerModel" "powers" "[I") (by decide +kernel)) dX4_addLoad_62 ?_
      refine lv_aload_n hx hb dX4_addLoad_65 rfl (lv_at hl 0 rfl) ?_
      refine mg hx hb hw4 hown hK hP 7 (by decide) (v := .int (nI n.1)) rfl (hts (.fieldLink RX4 106 "BackupPowerModel" "loadMany" "I") (by decide +kernel)) dX4_addLoad_66 ?_
      refine lv_iload_n hx hb dX4_addLoad_69 rfl (lv_at hl 2 rfl) ?_
      refine mst hx hb hK ha hP hS 2 (by decide) (show n.1 < 10 by omega) dX4_addLoad_70 (fun H locs hP hS => ?_)
      refine lv_aload_n hx hb dX4_addLoad_71 rfl (lv_at hl 0 rfl) ?_
      refine mg hx hb hw4 hown hK hP 10 (by decide) (v := .ref (b 3)) rfl (hts (.fieldLink RX4 30 "BackupPowerModel" "states" "[I") (by decide +kernel)) dX4_addLoad_72 ?_
      refine lv_aload_n hx hb dX4_addLoad_75 rfl (lv_at hl 0 rfl) ?_
      refine mg hx hb hw4 hown hK hP 7 (by decide) (v := .int (nI n.1)) rfl (hts (.fieldLink RX4 106 "BackupPowerModel" "loadMany" "I") (by decide +kernel)) dX4_addLoad_76 ?_
      refine lv_aload_n hx hb dX4_addLoad_79 rfl (lv_at hl 0 rfl) ?_
      refine mg hx hb hw4 hown hK hP 2 (by decide) (v := .int ((muA (muA (muS S39 0 s1_39) 1 n.1 x1) 2 n.1 x2).1 2)) rfl (hts (.fieldLink RX4 7 "BackupPowerModel" "areUp" "Z") (by decide +kernel)) dX4_addLoad_80 ?_
      refine lv_if_eq (tgt := 90) hx hb dX4_addLoad_83 (by decide) (fun c83 => ?_) (fun c83 => ?_)
      · rewrite [if_pos c83] at h
        refine lv_iconst (v := 2) hx hb dX4_addLoad_90 (by decide) ?_
        exact J91 (muA (muA (muS S39 0 s1_39) 1 n.1 x1) 2 n.1 x2) 2 hlt h _ _ _ hP hS (lv_sub hl [0] rfl)
      · rewrite [if_neg c83] at h
        refine lv_iconst (v := 1) hx hb dX4_addLoad_86 (by decide) ?_
        refine lv_goto (tgt := 91) hx hb dX4_addLoad_87 (by decide) ?_
        exact J91 (muA (muA (muS S39 0 s1_39) 1 n.1 x1) 2 n.1 x2) 1 hlt h _ _ _ hP hS (lv_sub hl [0] rfl)
    · rewrite [if_neg c46] at h
      refine lv_iconst (v := 0) hx hb dX4_addLoad_49 (by decide) ?_
      exact gRi (wf := fun q : (Nat × Nat × Nat) × MS => MW G.2 b q.1 q.2) (S := (n, (muS S39 0 s1_39))) hx hb hr hlocks hP hS h dX4_addLoad_50
  have J21 : ∀ (S21 : MS), f_X4_addLoad_b21 n x1 x2 S21 = F → ∀ (H : Heap) (locs : List Loc) (ls : Array Slot), wM G b n S21 H → va_S (wA 27 b s.heap.size) s.heap H locs → lv_has ls 3 [(0, .ref (b 0)), (1, .int x1), (2, .int x2)] → W p l e ({ frames := 1, cells := 0, slots := 0, locals := 22 } : Room) s m ([.ref (b 0), .int x1, .int x2] : List Value).toArray below meth c H locs 0 0 (gQi below G (fun q : (Nat × Nat × Nat) × MS => MW G.2 b q.1 q.2) 27 b F ([.ref (b 0), .int x1, .int x2] : List Value).toArray s) (F0 m 21 ls [.ref (b 0)]) := by
    intro S21 h H locs ls hP hS hl
    rewrite [f_X4_addLoad_b21] at h
    refine lv_iconst (v := 1) hx hb dX4_addLoad_21 (by decide) ?_
    refine lv_goto (tgt := 39) hx hb dX4_addLoad_22 (by decide) ?_
    exact J39 S21 1 (by first | (intro z; exact absurd z (by decide)) | (intro _; exact ne_lt (B := 10) (by decide) (by omega) c31)) h _ _ _ hP hS (lv_sub hl [0, 1, 2] rfl)
  rewrite [f_X4_addLoad] at h
  refine lv_aload_n hx hb dX4_addLoad_0 rfl (lv_at hl 0 rfl) ?_
  refine lv_iload_n hx hb dX4_addLoad_1 rfl (lv_at hl 1 rfl) ?_
  refine lv_iconst (v := 1) hx hb dX4_addLoad_2 (by decide) ?_
  refine lv_iconst (v := 5) hx hb dX4_addLoad_3 (by decide) ?_
  refine gcSz (wf := MW G.2 b n) (N := 27) (ad := b) (As := [.int x1, .int 1, .int 5]) (rest := [.ref (b 0)]) (S := S) ⟨hx, hb, hml, hown, hts⟩ hK hP hS (c_X4_in l G b ha n hn x1 1 5 S _) (va_cwS 3 hts gX4_addLoad_X4_in rfl rfl rfl (by decide +kernel) ⟨Nat.le_of_ble_eq_true rfl, Nat.le_of_ble_eq_true rfl⟩) rfl hl.1 rfl (Nat.le_of_ble_eq_true rfl) dX4_addLoad_4 ⟨Nat.le_of_ble_eq_true rfl, Nat.le_of_ble_eq_true rfl⟩ (fun p4 H locs ep4 hbp4 hP hS => ?_)
  rewrite [← ep4] at h
  rewrite [f_X4_addLoad_c4] at h
  refine lv_if_eq (tgt := 21) hx hb dX4_addLoad_7 (by decide) (fun c7 => ?_) (fun c7 => ?_)
  · rewrite [if_pos c7] at h
    exact J21 p4.2 h _ _ _ hP hS (lv_sub hl [0, 1, 2] rfl)
  · rewrite [if_neg c7] at h
    refine lv_iload_n hx hb dX4_addLoad_10 rfl (lv_at hl 2 rfl) ?_
    refine lv_iconst (v := 1) hx hb dX4_addLoad_11 (by decide) ?_
    refine lv_sipush (v := 500) hx hb dX4_addLoad_12 (by decide) ?_
    refine gcSz (wf := MW G.2 b n) (N := 27) (ad := b) (As := [.int x2, .int 1, .int 500]) (rest := [.ref (b 0)]) (S := p4.2) ⟨hx, hb, hml, hown, hts⟩ hK hP hS (c_X4_in l G b ha n hn x2 1 500 p4.2 _) (va_cwS 3 hts gX4_addLoad_X4_in rfl rfl rfl (by decide +kernel) ⟨Nat.le_of_ble_eq_true rfl, Nat.le_of_ble_eq_true rfl⟩) rfl hl.1 rfl (Nat.le_of_ble_eq_true rfl) dX4_addLoad_15 ⟨Nat.le_of_ble_eq_true rfl, Nat.le_of_ble_eq_true rfl⟩ (fun p15 H locs ep15 hbp15 hP hS => ?_)
    rewrite [← ep15] at h
    rewrite [f_X4_addLoad_c15] at h
    refine lv_if_ne (tgt := 25) hx hb dX4_addLoad_18 (by decide) (fun c18 => ?_) (fun c18 => ?_)
    · rewrite [if_neg c18] at h
      refine lv_aload_n hx hb dX4_addLoad_25 rfl (lv_at hl 0 rfl) ?_
      refine mg hx hb hw4 hown hK hP 7 (by decide) (v := .int (nI n.1)) rfl (hts (.fieldLink RX4 106 "BackupPowerModel" "loadMany" "I") (by decide +kernel)) dX4_addLoad_26 ?_
      refine lv_bipush (v := 10) hx hb dX4_addLoad_29 (by decide) ?_
      refine lv_icmp_ne (tgt := 38) hx hb dX4_addLoad_31 (by decide) (fun c31 => ?_) (fun c31 => ?_)
      · rewrite [if_neg c31] at h
        refine lv_iconst (v := 0) hx hb dX4_addLoad_38 (by decide) ?_
        exact J39 p15.2 0 (by first | (intro z; exact absurd z (by decide)) | (intro _; exact ne_lt (B := 10) (by decide) (by omega) c31)) h _ _ _ hP hS (lv_sub hl [0, 1, 2] rfl)
      · rewrite [if_pos c31] at h
        refine lv_iconst (v := 2) hx hb dX4_addLoad_34 (by decide) ?_
        refine lv_goto (tgt := 39) hx hb dX4_addLoad_35 (by decide) ?_
        exact J39 p15.2 2 (by first | (intro z; exact absurd z (by decide)) | (intro _; exact ne_lt (B := 10) (by decide) (by omega) c31)) h _ _ _ hP hS (lv_sub hl [0, 1, 2] rfl)
    · rewrite [if_pos c18] at h
      exact J21 p15.2 h _ _ _ hP hS (lv_sub hl [0, 1, 2] rfl)

def f_X4_addBattery_b51 (n : Nat × Nat × Nat) (x1 : Int32) (x2 : Int32) (x3 : Int32) (S51 : MS) (s1_51 : Int32) : Int32 × ((Nat × Nat × Nat) × MS) := (if ((muS S51 0 s1_51).1 0) ≤ 0 then ((nI (n.2.1 + 1)) - 1, ((n.1, (n.2.1 + 1), n.2.2), (muA (muA (muA (muA (muS S51 0 s1_51) 6 n.2.1 x1) 7 n.2.1 x1) 8 n.2.1 x2) 9 n.2.1 x3))) else (0, (n, (muS S51 0 s1_51))))
def f_X4_addBattery_b34 (n : Nat × Nat × Nat) (x1 : Int32) (x2 : Int32) (x3 : Int32) (S34 : MS) : Int32 × ((Nat × Nat × Nat) × MS) := (f_X4_addBattery_b51 n x1 x2 x3 S34 1)
def f_X4_addBattery_c28 (n : Nat × Nat × Nat) (x1 : Int32) (x2 : Int32) (x3 : Int32) (p28 : Int32 × MS) : Int32 × ((Nat × Nat × Nat) × MS) := (if p28.1 = 0 then (f_X4_addBattery_b34 n x1 x2 x3 p28.2) else (if (nI n.2.1) = 3 then (f_X4_addBattery_b51 n x1 x2 x3 p28.2 2) else (f_X4_addBattery_b51 n x1 x2 x3 p28.2 0)))
def f_X4_addBattery_c17 (n : Nat × Nat × Nat) (x1 : Int32) (x2 : Int32) (x3 : Int32) (p17 : Int32 × MS) : Int32 × ((Nat × Nat × Nat) × MS) := (if p17.1 = 0 then (f_X4_addBattery_b34 n x1 x2 x3 p17.2) else (f_X4_addBattery_c28 n x1 x2 x3 (f_X4_in n x3 1 500 p17.2)))
def f_X4_addBattery_c6 (n : Nat × Nat × Nat) (x1 : Int32) (x2 : Int32) (x3 : Int32) (p6 : Int32 × MS) : Int32 × ((Nat × Nat × Nat) × MS) := (if p6.1 = 0 then (f_X4_addBattery_b34 n x1 x2 x3 p6.2) else (f_X4_addBattery_c17 n x1 x2 x3 (f_X4_in n x2 1 500 p6.2)))
def f_X4_addBattery (n : Nat × Nat × Nat) (x1 : Int32) (x2 : Int32) (x3 : Int32) (S : MS) : Int32 × ((Nat × Nat × Nat) × MS) := (f_X4_addBattery_c6 n x1 x2 x3 (f_X4_in n x1 1 20000 S))
set_option maxHeartbeats 4000000 in
set_option maxRecDepth 100000 in
theorem c_X4_addBattery (l : Launch) (G : WG) (b : Nat → Nat) (ha : wInj 27 b) (n : Nat × Nat × Nat) (hn : n.1 ≤ 10 ∧ n.2.1 ≤ 3 ∧ n.2.2 ≤ 3) (x1 : Int32) (x2 : Int32) (x3 : Int32) (S : MS) (sz : Nat) : gMi l yX4_addBattery wsX4_addBattery ({ frames := 1, cells := 0, slots := 0, locals := 22 }) G 27 b (fun q : (Nat × Nat × Nat) × MS => MW G.2 b q.1 q.2) [.ref (b 0), .int x1, .int x2, .int x3] (n, S) sz (f_X4_addBattery n x1 x2 x3 S) := by
  unfold gMi
  refine Met.ofW (cc := cX4_addBattery) (maxL := 4) (ret := (some .int)) (by decide) rfl ?_
  intro p e s m args below meth c s₁ B hml hv
  obtain ⟨rfl, rfl, hP, hK⟩ := hv
  have hx := B.exec
  have hb := B.bytes
  have hr := B.returns
  have hts := atoms_spec (ws := wsX4_addBattery) B.pre
  have hown : s.vm.findClass RX4 = some m.cls := findClass_of_methodNamed B.named
  have hlocks := B.notSynchronized
  have hS : va_S (wA 27 b s.heap.size) s.heap s.heap [] := va_S.rf
  have hw4 : ∀ w ∈ wsX40, w.before ([.ref (b 0), .int x1, .int x2, .int x3] : List Value).toArray s = true := fun w hw => hts w ((by decide +kernel : ∀ w ∈ wsX40, w ∈ wsX4_addBattery) w hw)
  have hl := lv_entry ([.ref (b 0), .int x1, .int x2, .int x3]) (n := 4) (Nat.le_of_ble_eq_true rfl)
  rw [lg_entry_eq]
  generalize (lg_sl ([.ref (b 0), .int x1, .int x2, .int x3] : List Value) ++ List.replicate (4 - (lg_sl ([.ref (b 0), .int x1, .int x2, .int x3] : List Value)).length) Slot.unset).toArray = ls at hl ⊢
  have hl : lv_has ls 4 [(0, .ref (b 0)), (1, .int x1), (2, .int x2), (3, .int x3)] := hl
  generalize hF : f_X4_addBattery n x1 x2 x3 S = F
  have h : f_X4_addBattery n x1 x2 x3 S = F := hF
  clear hF
  show W p l e ({ frames := 1, cells := 0, slots := 0, locals := 22 } : Room) s m ([.ref (b 0), .int x1, .int x2, .int x3] : List Value).toArray below meth c s.heap [] 0 0 (gQi below G (fun q : (Nat × Nat × Nat) × MS => MW G.2 b q.1 q.2) 27 b F ([.ref (b 0), .int x1, .int x2, .int x3] : List Value).toArray s) (F0 m 0 ls [])
  have J51 : ∀ (S51 : MS) (s1_51 : Int32), (s1_51 ≤ 0 → n.2.1 < 3) → f_X4_addBattery_b51 n x1 x2 x3 S51 s1_51 = F → ∀ (H : Heap) (locs : List Loc) (ls : Array Slot), wM G b n S51 H → va_S (wA 27 b s.heap.size) s.heap H locs → lv_has ls 4 [(0, .ref (b 0)), (1, .int x1), (2, .int x2), (3, .int x3)] → W p l e ({ frames := 1, cells := 0, slots := 0, locals := 22 } : Room) s m ([.ref (b 0), .int x1, .int x2, .int x3] : List Value).toArray below meth c H locs 0 0 (gQi below G (fun q : (Nat × Nat × Nat) × MS => MW G.2 b q.1 q.2) 27 b F ([.ref (b 0), .int x1, .int x2, .int x3] : List Value).toArray s) (F0 m 51 ls [.int s1_51, .ref (b 0)]) := by
    intro S51 s1_51 hj51 h H locs ls hP hS hl
    rewrite [f_X4_addBattery_b51] at h
    refine mp hx hb hw4 hown hK ha hP hS 0 (by decide) rfl rfl okI (hts (.fieldLink RX4 103 "BackupPowerModel" "thrown" "I") (by decide +kernel)) dX4_addBattery_51 (fun H locs hP hS => ?_)
    refine lv_aload_n hx hb dX4_addBattery_54 rfl (lv_at hl 0 rfl) ?_
    refine mg hx hb hw4 hown hK hP 0 (by decide) (v := .int ((muS S51 0 s1_51).1 0)) rfl (hts (.fieldLink RX4 103 "BackupPowerModel" "thrown" "I") (by decide +kernel)) dX4_addBattery_55 ?_
    refine lv_if_le (tgt := 63) hx hb dX4_addBattery_58 (by decide) (fun c58 => ?_) (fun c58 => ?_)
    · rewrite [if_pos c58] at h
      have hlt : n.2.1 < 3 := hj51 (by simpa [muS, up1] using c58)
      refine lv_aload_n hx hb dX4_addBattery_63 rfl (lv_at hl 0 rfl) ?_
      refine mg hx hb hw4 hown hK hP 14 (by decide) (v := .ref (b 6)) rfl (hts (.fieldLink RX4 39 "BackupPowerModel" "capacities" "[I") (by decide +kernel)) dX4_addBattery_64 ?_
      refine lv_aload_n hx hb dX4_addBattery_67 rfl (lv_at hl 0 rfl) ?_
      refine mg hx hb hw4 hown hK hP 13 (by decide) (v := .int (nI n.2.1)) rfl (hts (.fieldLink RX4 116 "BackupPowerModel" "batteryMany" "I") (by decide +kernel)) dX4_addBattery_68 ?_
      refine lv_iload_n hx hb dX4_addBattery_71 rfl (lv_at hl 1 rfl) ?_
      refine mst hx hb hK ha hP hS 6 (by decide) (show n.2.1 < 3 by omega) dX4_addBattery_72 (fun H locs hP hS => ?_)
      refine lv_aload_n hx hb dX4_addBattery_73 rfl (lv_at hl 0 rfl) ?_
      refine mg hx hb hw4 hown hK hP 15 (by decide) (v := .ref (b 7)) rfl (hts (.fieldLink RX4 42 "BackupPowerModel" "charges" "[I") (by decide +kernel)) dX4_addBattery_74 ?_
      refine lv_aload_n hx hb dX4_addBattery_77 rfl (lv_at hl 0 rfl) ?_
      refine mg hx hb hw4 hown hK hP 13 (by decide) (v := .int (nI n.2.1)) rfl (hts (.fieldLink RX4 116 "BackupPowerModel" "batteryMany" "I") (by decide +kernel)) dX4_addBattery_78 ?_
      refine lv_iload_n hx hb dX4_addBattery_81 rfl (lv_at hl 1 rfl) ?_
      refine mst hx hb hK ha hP hS 7 (by decide) (show n.2.1 < 3 by omega) dX4_addBattery_82 (fun H locs hP hS => ?_)
      refine lv_aload_n hx hb dX4_addBattery_83 rfl (lv_at hl 0 rfl) ?_
      refine mg hx hb hw4 hown hK hP 16 (by decide) (v := .ref (b 8)) rfl (hts (.fieldLink RX4 45 "BackupPowerModel" "rates" "[I") (by decide +kernel)) dX4_addBattery_84 ?_
      refine lv_aload_n hx hb dX4_addBattery_87 rfl (lv_at hl 0 rfl) ?_
      refine mg hx hb hw4 hown hK hP 13 (by decide) (v := .int (nI n.2.1)) rfl (hts (.fieldLink RX4 116 "BackupPowerModel" "batteryMany" "I") (by decide +kernel)) dX4_addBattery_88 ?_
      refine lv_iload_n hx hb dX4_addBattery_91 rfl (lv_at hl 2 rfl) ?_
      refine mst hx hb hK ha hP hS 8 (by decide) (show n.2.1 < 3 by omega) dX4_addBattery_92 (fun H locs hP hS => ?_)
      refine lv_aload_n hx hb dX4_addBattery_93 rfl (lv_at hl 0 rfl) ?_
      refine mg hx hb hw4 hown hK hP 17 (by decide) (v := .ref (b 9)) rfl (hts (.fieldLink RX4 48 "BackupPowerModel" "chargings" "[I") (by decide +kernel)) dX4_addBattery_94 ?_
      refine lv_aload_n hx hb dX4_addBattery_97 rfl (lv_at hl 0 rfl) ?_
      refine mg hx hb hw4 hown hK hP 13 (by decide) (v := .int (nI n.2.1)) rfl (hts (.fieldLink RX4 116 "BackupPowerModel" "batteryMany" "I") (by decide +kernel)) dX4_addBattery_98 ?_
      refine lv_iload_n hx hb dX4_addBattery_101 rfl (lv_at hl 3 rfl) ?_
      refine mst hx hb hK ha hP hS 9 (by decide) (show n.2.1 < 3 by omega) dX4_addBattery_102 (fun H locs hP hS => ?_)
      refine lv_aload_n hx hb dX4_addBattery_103 rfl (lv_at hl 0 rfl) ?_
      refine lv_dup hx hb dX4_addBattery_104 rfl ?_
      refine mg hx hb hw4 hown hK hP 13 (by decide) (v := .int (nI n.2.1)) rfl (hts (.fieldLink RX4 116 "BackupPowerModel" "batteryMany" "I") (by decide +kernel)) dX4_addBattery_105 ?_
      refine lv_iconst (v := 1) hx hb dX4_addBattery_108 (by decide) ?_
      refine lv_iadd hx hb dX4_addBattery_109 ?_
      refine mpN (n' := (n.1, (n.2.1 + 1), n.2.2)) hx hb hw4 hown hK ha hP hS 13 (by decide) rfl okI (v := (nI n.2.1) + 1) mfO_n13 mfO_ne13 (hts (.fieldLink RX4 116 "BackupPowerModel" "batteryMany" "I") (by decide +kernel)) dX4_addBattery_110 (fun H locs hP hS => ?_)
      refine lv_aload_n hx hb dX4_addBattery_113 rfl (lv_at hl 0 rfl) ?_
      refine mg hx hb hw4 hown hK hP 13 (by decide) (v := .int (nI (n.2.1 + 1))) rfl (hts (.fieldLink RX4 116 "BackupPowerModel" "batteryMany" "I") (by decide +kernel)) dX4_addBattery_114 ?_
      refine lv_iconst (v := 1) hx hb dX4_addBattery_117 (by decide) ?_
      refine lv_isub hx hb dX4_addBattery_118 ?_
      exact gRi (wf := fun q : (Nat × Nat × Nat) × MS => MW G.2 b q.1 q.2) (S := ((n.1, (n.2.1 + 1), n.2.2), (muA (muA (muA (muA (muS S51 0 s1_51) 6 n.2.1 x1) 7 n.2.1 x1) 8 n.2.1 x2) 9 n.2.1 x3))) hx hb hr hlocks hP hS h dX4_addBattery_119
    · rewrite [if_neg c58] at h
      refine lv_iconst (v := 0) hx hb dX4_addBattery_61 (by decide) ?_
      exact gRi (wf := fun q : (Nat × Nat × Nat) × MS => MW G.2 b q.1 q.2) (S := (n, (muS S51 0 s1_51))) hx hb hr hlocks hP hS h dX4_addBattery_62
  have J34 : ∀ (S34 : MS), f_X4_addBattery_b34 n x1 x2 x3 S34 = F → ∀ (H : Heap) (locs : List Loc) (ls : Array Slot), wM G b n S34 H → va_S (wA 27 b s.heap.size) s.heap H locs → lv_has ls 4 [(0, .ref (b 0)), (1, .int x1), (2, .int x2), (3, .int x3)] → W p l e ({ frames := 1, cells := 0, slots := 0, locals := 22 } : Room) s m ([.ref (b 0), .int x1, .int x2, .int x3] : List Value).toArray below meth c H locs 0 0 (gQi below G (fun q : (Nat × Nat × Nat) × MS => MW G.2 b q.1 q.2) 27 b F ([.ref (b 0), .int x1, .int x2, .int x3] : List Value).toArray s) (F0 m 34 ls [.ref (b 0)]) := by
    intro S34 h H locs ls hP hS hl
    rewrite [f_X4_addBattery_b34] at h
    refine lv_iconst (v := 1) hx hb dX4_addBattery_34 (by decide) ?_
    refine lv_goto (tgt := 51) hx hb dX4_addBattery_35 (by decide) ?_
    exact J51 S34 1 (by first | (intro z; exact absurd z (by decide)) | (intro _; exact ne_lt (B := 3) (by decide) (by omega) c43)) h _ _ _ hP hS (lv_sub hl [0, 1, 2, 3] rfl)
  rewrite [f_X4_addBattery] at h
  refine lv_aload_n hx hb dX4_addBattery_0 rfl (lv_at hl 0 rfl) ?_
  refine lv_iload_n hx hb dX4_addBattery_1 rfl (lv_at hl 1 rfl) ?_
  refine lv_iconst (v := 1) hx hb dX4_addBattery_2 (by decide) ?_
  refine lv_sipush (v := 20000) hx hb dX4_addBattery_3 (by decide) ?_
  refine gcSz (wf := MW G.2 b n) (N := 27) (ad := b) (As := [.int x1, .int 1, .int 20000]) (rest := [.ref (b 0)]) (S := S) ⟨hx, hb, hml, hown, hts⟩ hK hP hS (c_X4_in l G b ha n hn x1 1 20000 S _) (va_cwS 3 hts gX4_addBattery_X4_in rfl rfl rfl (by decide +kernel) ⟨Nat.le_of_ble_eq_true rfl, Nat.le_of_ble_eq_true rfl⟩) rfl hl.1 rfl (Nat.le_of_ble_eq_true rfl) dX4_addBattery_6 ⟨Nat.le_of_ble_eq_true rfl, Nat.le_of_ble_eq_true rfl⟩ (fun p6 H locs ep6 hbp6 hP hS => ?_)
  rewrite [← ep6] at h
  rewrite [f_X4_addBattery_c6] at h
  refine lv_if_eq (tgt := 34) hx hb dX4_addBattery_9 (by decide) (fun c9 => ?_) (fun c9 => ?_)
  · rewrite [if_pos c9] at h
    exact J34 p6.2 h _ _ _ hP hS (lv_sub hl [0, 1, 2, 3] rfl)
  · rewrite [if_neg c9] at h
    refine lv_iload_n hx hb dX4_addBattery_12 rfl (lv_at hl 2 rfl) ?_
    refine lv_iconst (v := 1) hx hb dX4_addBattery_13 (by decide) ?_
    refine lv_sipush (v := 500) hx hb dX4_addBattery_14 (by decide) ?_
    refine gcSz (wf := MW G.2 b n) (N := 27) (ad := b) (As := [.int x2, .int 1, .int 500]) (rest := [.ref (b 0)]) (S := p6.2) ⟨hx, hb, hml, hown, hts⟩ hK hP hS (c_X4_in l G b ha n hn x2 1 500 p6.2 _) (va_cwS 3 hts gX4_addBattery_X4_in rfl rfl rfl (by decide +kernel) ⟨Nat.le_of_ble_eq_true rfl, Nat.le_of_ble_eq_true rfl⟩) rfl hl.1 rfl (Nat.le_of_ble_eq_true rfl) dX4_addBattery_17 ⟨Nat.le_of_ble_eq_true rfl, Nat.le_of_ble_eq_true rfl⟩ (fun p17 H locs ep17 hbp17 hP hS => ?_)
    rewrite [← ep17] at h
    rewrite [f_X4_addBattery_c17] at h
    refine lv_if_eq (tgt := 34) hx hb dX4_addBattery_20 (by decide) (fun c20 => ?_) (fun c20 => ?_)
    · rewrite [if_pos c20] at h
      exact J34 p17.2 h _ _ _ hP hS (lv_sub hl [0, 1, 2, 3] rfl)
    · rewrite [if_neg c20] at h
      refine lv_iload_n hx hb dX4_addBattery_23 rfl (lv_at hl 3 rfl) ?_
      refine lv_iconst (v := 1) hx hb dX4_addBattery_24 (by decide) ?_
      refine lv_sipush (v := 500) hx hb dX4_addBattery_25 (by decide) ?_
      refine gcSz (wf := MW G.2 b n) (N := 27) (ad := b) (As := [.int x3, .int 1, .int 500]) (rest := [.ref (b 0)]) (S := p17.2) ⟨hx, hb, hml, hown, hts⟩ hK hP hS (c_X4_in l G b ha n hn x3 1 500 p17.2 _) (va_cwS 3 hts gX4_addBattery_X4_in rfl rfl rfl (by decide +kernel) ⟨Nat.le_of_ble_eq_true rfl, Nat.le_of_ble_eq_true rfl⟩) rfl hl.1 rfl (Nat.le_of_ble_eq_true rfl) dX4_addBattery_28 ⟨Nat.le_of_ble_eq_true rfl, Nat.le_of_ble_eq_true rfl⟩ (fun p28 H locs ep28 hbp28 hP hS => ?_)
      rewrite [← ep28] at h
      rewrite [f_X4_addBattery_c28] at h
      refine lv_if_ne (tgt := 38) hx hb dX4_addBattery_31 (by decide) (fun c31 => ?_) (fun c31 => ?_)
      · rewrite [if_neg c31] at h
        refine lv_aload_n hx hb dX4_addBattery_38 rfl (lv_at hl 0 rfl) ?_
        refine mg hx hb hw4 hown hK hP 13 (by decide) (v := .int (nI n.2.1)) rfl (hts (.fieldLink RX4 116 "BackupPowerModel" "batteryMany" "I") (by decide +kernel)) dX4_addBattery_39 ?_
        refine lv_iconst (v := 3) hx hb dX4_addBattery_42 (by decide) ?_
        refine lv_icmp_ne (tgt := 50) hx hb dX4_addBattery_43 (by decide) (fun c43 => ?_) (fun c43 => ?_)
        · rewrite [if_neg c43] at h
          refine lv_iconst (v := 0) hx hb dX4_addBattery_50 (by decide) ?_
          exact J51 p28.2 0 (by first | (intro z; exact absurd z (by decide)) | (intro _; exact ne_lt (B := 3) (by decide) (by omega) c43)) h _ _ _ hP hS (lv_sub hl [0, 1, 2, 3] rfl)
        · rewrite [if_pos c43] at h
          refine lv_iconst (v := 2) hx hb dX4_addBattery_46 (by decide) ?_
          refine lv_goto (tgt := 51) hx hb dX4_addBattery_47 (by decide) ?_
          exact J51 p28.2 2 (by first | (intro z; exact absurd z (by decide)) | (intro _; exact ne_lt (B := 3) (by decide) (by omega) c43)) h _ _ _ hP hS (lv_sub hl [0, 1, 2, 3] rfl)
      · rewrite [if_pos c31] at h
        exact J34 p28.2 h _ _ _ hP hS (lv_sub hl [0, 1, 2, 3] rfl)

def f_X4_addGenerator_b50 (n : Nat × Nat × Nat) (x1 : Int32) (x2 : Int32) (x3 : Int32) (S50 : MS) (s1_50 : Int32) : Int32 × ((Nat × Nat × Nat) × MS) := (if ((muS S50 0 s1_50).1 0) ≤ 0 then ((nI (n.2.2 + 1)) - 1, ((n.1, n.2.1, (n.2.2 + 1)), (muA (muA (muA (muA (muS S50 0 s1_50) 12 n.2.2 x1) 13 n.2.2 x2) 14 n.2.2 x3) 15 n.2.2 x3))) else (0, (n, (muS S50 0 s1_50))))
def f_X4_addGenerator_b33 (n : Nat × Nat × Nat) (x1 : Int32) (x2 : Int32) (x3 : Int32) (S33 : MS) : Int32 × ((Nat × Nat × Nat) × MS) := (f_X4_addGenerator_b50 n x1 x2 x3 S33 1)
def f_X4_addGenerator_c27 (n : Nat × Nat × Nat) (x1 : Int32) (x2 : Int32) (x3 : Int32) (p27 : Int32 × MS) : Int32 × ((Nat × Nat × Nat) × MS) := (if p27.1 = 0 then (f_X4_addGenerator_b33 n x1 x2 x3 p27.2) else (if (nI n.2.2) = 3 then (f_X4_addGenerator_b50 n x1 x2 x3 p27.2 2) else (f_X4_addGenerator_b50 n x1 x2 x3 p27.2 0)))
def f_X4_addGenerator_c16 (n : Nat × Nat × Nat) (x1 : Int32) (x2 : Int32) (x3 : Int32) (p16 : Int32 × MS) : Int32 × ((Nat × Nat × Nat) × MS) := (if p16.1 = 0 then (f_X4_addGenerator_b33 n x1 x2 x3 p16.2) else (f_X4_addGenerator_c27 n x1 x2 x3 (f_X4_in n x3 1 1000 p16.2)))
def f_X4_addGenerator_c6 (n : Nat × Nat × Nat) (x1 : Int32) (x2 : Int32) (x3 : Int32) (p6 : Int32 × MS) : Int32 × ((Nat × Nat × Nat) × MS) := (if p6.1 = 0 then (f_X4_addGenerator_b33 n x1 x2 x3 p6.2) else (f_X4_addGenerator_c16 n x1 x2 x3 (f_X4_in n x2 1 10 p6.2)))
def f_X4_addGenerator (n : Nat × Nat × Nat) (x1 : Int32) (x2 : Int32) (x3 : Int32) (S : MS) : Int32 × ((Nat × Nat × Nat) × MS) := (f_X4_addGenerator_c6 n x1 x2 x3 (f_X4_in n x1 1 1000 S))
set_option maxHeartbeats 4000000 in
set_option maxRecDepth 100000 in
theorem c_X4_addGenerator (l : Launch) (G : WG) (b : Nat → Nat) (ha : wInj 27 b) (n : Nat × Nat × Nat) (hn : n.1 ≤ 10 ∧ n.2.1 ≤ 3 ∧ n.2.2 ≤ 3) (x1 : Int32) (x2 : Int32) (x3 : Int32) (S : MS) (sz : Nat) : gMi l yX4_addGenerator wsX4_addGenerator ({ frames := 1, cells := 0, slots := 0, locals := 22 }) G 27 b (fun q : (Nat × Nat × Nat) × MS => MW G.2 b q.1 q.2) [.ref (b 0), .int x1, .int x2, .int x3] (n, S) sz (f_X4_addGenerator n x1 x2 x3 S) := by
  unfold gMi
  refine Met.ofW (cc := cX4_addGenerator) (maxL := 4) (ret := (some .int)) (by decide) rfl ?_
  intro p e s m args below meth c s₁ B hml hv
  obtain ⟨rfl, rfl, hP, hK⟩ := hv
  have hx := B.exec
  have hb := B.bytes
  have hr := B.returns
  have hts := atoms_spec (ws := wsX4_addGenerator) B.pre
  have hown : s.vm.findClass RX4 = some m.cls := findClass_of_methodNamed B.named
  have hlocks := B.notSynchronized
  have hS : va_S (wA 27 b s.heap.size) s.heap s.heap [] := va_S.rf
  have hw4 : ∀ w ∈ wsX40, w.before ([.ref (b 0), .int x1, .int x2, .int x3] : List Value).toArray s = true := fun w hw => hts w ((by decide +kernel : ∀ w ∈ wsX40, w ∈ wsX4_addGenerator) w hw)
  have hl := lv_entry ([.ref (b 0), .int x1, .int x2, .int x3]) (n := 4) (Nat.le_of_ble_eq_true rfl)
  rw [lg_entry_eq]
  generalize (lg_sl ([.ref (b 0), .int x1, .int x2, .int x3] : List Value) ++ List.replicate (4 - (lg_sl ([.ref (b 0), .int x1, .int x2, .int x3] : List Value)).length) Slot.unset).toArray = ls at hl ⊢
  have hl : lv_has ls 4 [(0, .ref (b 0)), (1, .int x1), (2, .int x2), (3, .int x3)] := hl
  generalize hF : f_X4_addGenerator n x1 x2 x3 S = F
  have h : f_X4_addGenerator n x1 x2 x3 S = F := hF
  clear hF
  show W p l e ({ frames := 1, cells := 0, slots := 0, locals := 22 } : Room) s m ([.ref (b 0), .int x1, .int x2, .int x3] : List Value).toArray below meth c s.heap [] 0 0 (gQi below G (fun q : (Nat × Nat × Nat) × MS => MW G.2 b q.1 q.2) 27 b F ([.ref (b 0), .int x1, .int x2, .int x3] : List Value).toArray s) (F0 m 0 ls [])
  have J50 : ∀ (S50 : MS) (s1_50 : Int32), (s1_50 ≤ 0 → n.2.2 < 3) → f_X4_addGenerator_b50 n x1 x2 x3 S50 s1_50 = F → ∀ (H : Heap) (locs : List Loc) (ls : Array Slot), wM G b n S50 H → va_S (wA 27 b s.heap.size) s.heap H locs → lv_has ls 4 [(0, .ref (b 0)), (1, .int x1), (2, .int x2), (3, .int x3)] → W p l e ({ frames := 1, cells := 0, slots := 0, locals := 22 } : Room) s m ([.ref (b 0), .int x1, .int x2, .int x3] : List Value).toArray below meth c H locs 0 0 (gQi below G (fun q : (Nat × Nat × Nat) × MS => MW G.2 b q.1 q.2) 27 b F ([.ref (b 0), .int x1, .int x2, .int x3] : List Value).toArray s) (F0 m 50 ls [.int s1_50, .ref (b 0)]) := by
    intro S50 s1_50 hj50 h H locs ls hP hS hl
    rewrite [f_X4_addGenerator_b50] at h
    refine mp hx hb hw4 hown hK ha hP hS 0 (by decide) rfl rfl okI (hts (.fieldLink RX4 103 "BackupPowerModel" "thrown" "I") (by decide +kernel)) dX4_addGenerator_50 (fun H locs hP hS => ?_)
    refine lv_aload_n hx hb dX4_addGenerator_53 rfl (lv_at hl 0 rfl) ?_
    refine mg hx hb hw4 hown hK hP 0 (by decide) (v := .int ((muS S50 0 s1_50).1 0)) rfl (hts (.fieldLink RX4 103 "BackupPowerModel" "thrown" "I") (by decide +kernel)) dX4_addGenerator_54 ?_
    refine lv_if_le (tgt := 62) hx hb dX4_addGenerator_57 (by decide) (fun c57 => ?_) (fun c57 => ?_)
    · rewrite [if_pos c57] at h
      have hlt : n.2.2 < 3 := hj50 (by simpa [muS, up1] using c57)
      refine lv_aload_n hx hb dX4_addGenerator_62 rfl (lv_at hl 0 rfl) ?_
      refine mg hx hb hw4 hown hK hP 21 (by decide) (v := .ref (b 12)) rfl (hts (.fieldLink RX4 57 "BackupPowerModel" "strengths" "[I") (by decide +kernel)) dX4_addGenerator_63 ?_
      refine lv_aload_n hx hb dX4_addGenerator_66 rfl (lv_at hl 0 rfl) ?_
      refine mg hx hb hw4 hown hK hP 20 (by decide) (v := .int (nI n.2.2)) rfl (hts (.fieldLink RX4 113 "BackupPowerModel" "generatorMany" "I") (by decide +kernel)) dX4_addGenerator_67 ?_
      refine lv_iload_n hx hb dX4_addGenerator_70 rfl (lv_at hl 1 rfl) ?_
      refine mst hx hb hK ha hP hS 12 (by decide) (show n.2.2 < 3 by omega) dX4_addGenerator_71 (fun H locs hP hS => ?_)
      refine lv_aload_n hx hb dX4_addGenerator_72 rfl (lv_at hl 0 rfl) ?_
      refine mg hx hb hw4 hown hK hP 22 (by decide) (v := .ref (b 13)) rfl (hts (.fieldLink RX4 60 "BackupPowerModel" "delays" "[I") (by decide +kernel)) dX4_addGenerator_73 ?_
      refine lv_aload_n hx hb dX4_addGenerator_76 rfl (lv_at hl 0 rfl) ?_
      refine mg hx hb hw4 hown hK hP 20 (by decide) (v := .int (nI n.2.2)) rfl (hts (.fieldLink RX4 113 "BackupPowerModel" "generatorMany" "I") (by decide +kernel)) dX4_addGenerator_77 ?_
      refine lv_iload_n hx hb dX4_addGenerator_80 rfl (lv_at hl 2 rfl) ?_
      refine mst hx hb hK ha hP hS 13 (by decide) (show n.2.2 < 3 by omega) dX4_addGenerator_81 (fun H locs hP hS => ?_)
      refine lv_aload_n hx hb dX4_addGenerator_82 rfl (lv_at hl 0 rfl) ?_
      refine mg hx hb hw4 hown hK hP 23 (by decide) (v := .ref (b 14)) rfl (hts (.fieldLink RX4 63 "BackupPowerModel" "tanks" "[I") (by decide +kernel)) dX4_addGenerator_83 ?_
      refine lv_aload_n hx hb dX4_addGenerator_86 rfl (lv_at hl 0 rfl) ?_
      refine mg hx hb hw4 hown hK hP 20 (by decide) (v := .int (nI n.2.2)) rfl (hts (.fieldLink RX4 113 "BackupPowerModel" "generatorMany" "I") (by decide +kernel)) dX4_addGenerator_87 ?_
      refine lv_iload_n hx hb dX4_addGenerator_90 rfl (lv_at hl 3 rfl) ?_
      refine mst hx hb hK ha hP hS 14 (by decide) (show n.2.2 < 3 by omega) dX4_addGenerator_91 (fun H locs hP hS => ?_)
      refine lv_aload_n hx hb dX4_addGenerator_92 rfl (lv_at hl 0 rfl) ?_
      refine mg hx hb hw4 hown hK hP 24 (by decide) (v := .ref (b 15)) rfl (hts (.fieldLink RX4 66 "BackupPowerModel" "fuels" "[I") (by decide +kernel)) dX4_addGenerator_93 ?_
      refine lv_aload_n hx hb dX4_addGenerator_96 rfl (lv_at hl 0 rfl) ?_
      refine mg hx hb hw4 hown hK hP 20 (by decide) (v := .int (nI n.2.2)) rfl (hts (.fieldLink RX4 113 "BackupPowerModel" "generatorMany" "I") (by decide +kernel)) dX4_addGenerator_97 ?_
      refine lv_iload_n hx hb dX4_addGenerator_100 rfl (lv_at hl 3 rfl) ?_
      refine mst hx hb hK ha hP hS 15 (by decide) (show n.2.2 < 3 by omega) dX4_addGenerator_101 (fun H locs hP hS => ?_)
      refine lv_aload_n hx hb dX4_addGenerator_102 rfl (lv_at hl 0 rfl) ?_
      refine lv_dup hx hb dX4_addGenerator_103 rfl ?_
      refine mg hx hb hw4 hown hK hP 20 (by decide) (v := .int (nI n.2.2)) rfl (hts (.fieldLink RX4 113 "BackupPowerModel" "generatorMany" "I") (by decide +kernel)) dX4_addGenerator_104 ?_
      refine lv_iconst (v := 1) hx hb dX4_addGenerator_107 (by decide) ?_
      refine lv_iadd hx hb dX4_addGenerator_108 ?_
      refine mpN (n' := (n.1, n.2.1, (n.2.2 + 1))) hx hb hw4 hown hK ha hP hS 20 (by decide) rfl okI (v := (nI n.2.2) + 1) mfO_n20 mfO_ne20 (hts (.fieldLink RX4 113 "BackupPowerModel" "generatorMany" "I") (by decide +kernel)) dX4_addGenerator_109 (fun H locs hP hS => ?_)
      refine lv_aload_n hx hb dX4_addGenerator_112 rfl (lv_at hl 0 rfl) ?_
      refine mg hx hb hw4 hown hK hP 20 (by decide) (v := .int (nI (n.2.2 + 1))) rfl (hts (.fieldLink RX4 113 "BackupPowerModel" "generatorMany" "I") (by decide +kernel)) dX4_addGenerator_113 ?_
      refine lv_iconst (v := 1) hx hb dX4_addGenerator_116 (by decide) ?_
      refine lv_isub hx hb dX4_addGenerator_117 ?_
      exact gRi (wf := fun q : (Nat × Nat × Nat) × MS => MW G.2 b q.1 q.2) (S := ((n.1, n.2.1, (n.2.2 + 1)), (muA (muA (muA (muA (muS S50 0 s1_50) 12 n.2.2 x1) 13 n.2.2 x2) 14 n.2.2 x3) 15 n.2.2 x3))) hx hb hr hlocks hP hS h dX4_addGenerator_118
    · rewrite [if_neg c57] at h
      refine lv_iconst (v := 0) hx hb dX4_addGenerator_60 (by decide) ?_
      exact gRi (wf := fun q : (Nat × Nat × Nat) × MS => MW G.2 b q.1 q.2) (S := (n, (muS S50 0 s1_50))) hx hb hr hlocks hP hS h dX4_addGenerator_61
  have J33 : ∀ (S33 : MS), f_X4_addGenerator_b33 n x1 x2 x3 S33 = F → ∀ (H : Heap) (locs : List Loc) (ls : Array Slot), wM G b n S33 H → va_S (wA 27 b s.heap.size) s.heap H locs → lv_has ls 4 [(0, .ref (b 0)), (1, .int x1), (2, .int x2), (3, .int x3)] → W p l e ({ frames := 1, cells := 0, slots := 0, locals := 22 } : Room) s m ([.ref (b 0), .int x1, .int x2, .int x3] : List Value).toArray below meth c H locs 0 0 (gQi below G (fun q : (Nat × Nat × Nat) × MS => MW G.2 b q.1 q.2) 27 b F ([.ref (b 0), .int x1, .int x2, .int x3] : List Value).toArray s) (F0 m 33 ls [.ref (b 0)]) := by
    intro S33 h H locs ls hP hS hl
    rewrite [f_X4_addGenerator_b33] at h
    refine lv_iconst (v := 1) hx hb dX4_addGenerator_33 (by decide) ?_
    refine lv_goto (tgt := 50) hx hb dX4_addGenerator_34 (by decide) ?_
    exact J50 S33 1 (by first | (intro z; exact absurd z (by decide)) | (intro _; exact ne_lt (B := 3) (by decide) (by omega) c42)) h _ _ _ hP hS (lv_sub hl [0, 1, 2, 3] rfl)
  rewrite [f_X4_addGenerator] at h
  refine lv_aload_n hx hb dX4_addGenerator_0 rfl (lv_at hl 0 rfl) ?_
  refine lv_iload_n hx hb dX4_addGenerator_1 rfl (lv_at hl 1 rfl) ?_
  refine lv_iconst (v := 1) hx hb dX4_addGenerator_2 (by decide) ?_
  refine lv_sipush (v := 1000) hx hb dX4_addGenerator_3 (by decide) ?_
  refine gcSz (wf := MW G.2 b n) (N := 27) (ad := b) (As := [.int x1, .int 1, .int 1000]) (rest := [.ref (b 0)]) (S := S) ⟨hx, hb, hml, hown, hts⟩ hK hP hS (c_X4_in l G b ha n hn x1 1 1000 S _) (va_cwS 3 hts gX4_addGenerator_X4_in rfl rfl rfl (by decide +kernel) ⟨Nat.le_of_ble_eq_true rfl, Nat.le_of_ble_eq_true rfl⟩) rfl hl.1 rfl (Nat.le_of_ble_eq_true rfl) dX4_addGenerator_6 ⟨Nat.le_of_ble_eq_true rfl, Nat.le_of_ble_eq_true rfl⟩ (fun p6 H locs ep6 hbp6 hP hS => ?_)
  rewrite [← ep6] at h
  rewrite [f_X4_addGenerator_c6] at h
  refine lv_if_eq (tgt := 33) hx hb dX4_addGenerator_9 (by decide) (fun c9 => ?_) (fun c9 => ?_)
  · rewrite [if_pos c9] at h
    exact J33 p6.2 h _ _ _ hP hS (lv_sub hl [0, 1, 2, 3] rfl)
  · rewrite [if_neg c9] at h
    refine lv_iload_n hx hb dX4_addGenerator_12 rfl (lv_at hl 2 rfl) ?_
    refine lv_iconst (v := 1) hx hb dX4_addGenerator_13 (by decide) ?_
    refine lv_bipush (v := 10) hx hb dX4_addGenerator_14 (by decide) ?_
    refine gcSz (wf := MW G.2 b n) (N := 27) (ad := b) (As := [.int x2, .int 1, .int 10]) (rest := [.ref (b 0)]) (S := p6.2) ⟨hx, hb, hml, hown, hts⟩ hK hP hS (c_X4_in l G b ha n hn x2 1 10 p6.2 _) (va_cwS 3 hts gX4_addGenerator_X4_in rfl rfl rfl (by decide +kernel) ⟨Nat.le_of_ble_eq_true rfl, Nat.le_of_ble_eq_true rfl⟩) rfl hl.1 rfl (Nat.le_of_ble_eq_true rfl) dX4_addGenerator_16 ⟨Nat.le_of_ble_eq_true rfl, Nat.le_of_ble_eq_true rfl⟩ (fun p16 H locs ep16 hbp16 hP hS => ?_)
    rewrite [← ep16] at h
    rewrite [f_X4_addGenerator_c16] at h
    refine lv_if_eq (tgt := 33) hx hb dX4_addGenerator_19 (by decide) (fun c19 => ?_) (fun c19 => ?_)
    · rewrite [if_pos c19] at h
      exact J33 p16.2 h _ _ _ hP hS (lv_sub hl [0, 1, 2, 3] rfl)
    · rewrite [if_neg c19] at h
      refine lv_iload_n hx hb dX4_addGenerator_22 rfl (lv_at hl 3 rfl) ?_
      refine lv_iconst (v := 1) hx hb dX4_addGenerator_23 (by decide) ?_
      refine lv_sipush (v := 1000) hx hb dX4_addGenerator_24 (by decide) ?_
      refine gcSz (wf := MW G.2 b n) (N := 27) (ad := b) (As := [.int x3, .int 1, .int 1000]) (rest := [.ref (b 0)]) (S := p16.2) ⟨hx, hb, hml, hown, hts⟩ hK hP hS (c_X4_in l G b ha n hn x3 1 1000 p16.2 _) (va_cwS 3 hts gX4_addGenerator_X4_in rfl rfl rfl (by decide +kernel) ⟨Nat.le_of_ble_eq_true rfl, Nat.le_of_ble_eq_true rfl⟩) rfl hl.1 rfl (Nat.le_of_ble_eq_true rfl) dX4_addGenerator_27 ⟨Nat.le_of_ble_eq_true rfl, Nat.le_of_ble_eq_true rfl⟩ (fun p27 H locs ep27 hbp27 hP hS => ?_)
      rewrite [← ep27] at h
      rewrite [f_X4_addGenerator_c27] at h
      refine lv_if_ne (tgt := 37) hx hb dX4_addGenerator_30 (by decide) (fun c30 => ?_) (fun c30 => ?_)
      · rewrite [if_neg c30] at h
        refine lv_aload_n hx hb dX4_addGenerator_37 rfl (lv_at hl 0 rfl) ?_
        refine mg hx hb hw4 hown hK hP 20 (by decide) (v := .int (nI n.2.2)) rfl (hts (.fieldLink RX4 113 "BackupPowerModel" "generatorMany" "I") (by decide +kernel)) dX4_addGenerator_38 ?_
        refine lv_iconst (v := 3) hx hb dX4_addGenerator_41 (by decide) ?_
        refine lv_icmp_ne (tgt := 49) hx hb dX4_addGenerator_42 (by decide) (fun c42 => ?_) (fun c42 => ?_)
        · rewrite [if_neg c42] at h
          refine lv_iconst (v := 0) hx hb dX4_addGenerator_49 (by decide) ?_
          exact J50 p27.2 0 (by first | (intro z; exact absurd z (by decide)) | (intro _; exact ne_lt (B := 3) (by decide) (by omega) c42)) h _ _ _ hP hS (lv_sub hl [0, 1, 2, 3] rfl)
        · rewrite [if_pos c42] at h
          refine lv_iconst (v := 2) hx hb dX4_addGenerator_45 (by decide) ?_
          refine lv_goto (tgt := 50) hx hb dX4_addGenerator_46 (by decide) ?_
          exact J50 p27.2 2 (by first | (intro z; exact absurd z (by decide)) | (intro _; exact ne_lt (B := 3) (by decide) (by omega) c42)) h _ _ _ hP hS (lv_sub hl [0, 1, 2, 3] rfl)
      · rewrite [if_pos c30] at h
        exact J33 p27.2 h _ _ _ hP hS (lv_sub hl [0, 1, 2, 3] rfl)

def f_X4_switchLoad_b58 (n : Nat × Nat × Nat) (x1 : Int32) (x2 : Int32) (S58 : MS) (s2_58 : Int32) : Int32 × MS := ((muA S58 3 x1.toNatClampNeg s2_58).2 3 x1.toNatClampNeg, (muA S58 3 x1.toNatClampNeg s2_58))
def f_X4_switchLoad_b14 (n : Nat × Nat × Nat) (x1 : Int32) (x2 : Int32) (S14 : MS) (s1_14 : Int32) : Int32 × MS := (if ((muS S14 0 s1_14).1 0) ≤ 0 then (if x2 = 0 then (f_X4_switchLoad_b58 n x1 x2 (muS S14 0 s1_14) 0) else (if ((muS S14 0 s1_14).2 3 x1.toNatClampNeg) = 0 then (f_X4_switchLoad_b58 n x1 x2 (muS S14 0 s1_14) 2) else (f_X4_switchLoad_b58 n x1 x2 (muS S14 0 s1_14) ((muS S14 0 s1_14).2 3 x1.toNatClampNeg)))) else (0, (muS S14 0 s1_14)))
def f_X4_switchLoad_c3 (n : Nat × Nat × Nat) (x1 : Int32) (x2 : Int32) (p3 : Int32 × MS) : Int32 × MS := (if p3.1 = 0 then (f_X4_switchLoad_b14 n x1 x2 p3.2 1) else (f_X4_switchLoad_b14 n x1 x2 p3.2 0))
def f_X4_switchLoad (n : Nat × Nat × Nat) (x1 : Int32) (x2 : Int32) (S : MS) : Int32 × MS := (f_X4_switchLoad_c3 n x1 x2 (f_X4_isLoad n x1 S))
set_option maxHeartbeats 4000000 in
set_option maxRecDepth 100000 in
theorem c_X4_switchLoad (l : Launch) (G : WG) (b : Nat → Nat) (ha : wInj 27 b) (n : Nat × Nat × Nat) (hn : n.1 ≤ 10 ∧ n.2.1 ≤ 3 ∧ n.2.2 ≤ 3) (x1 : Int32) (x2 : Int32) (hbx2 : isB x2) (S : MS) (sz : Nat) : gMi l yX4_switchLoad wsX4_switchLoad ({ frames := 2, cells := 0, slots := 0, locals := 43 }) G 27 b (MW G.2 b n) [.ref (b 0), .int x1, .int x2] S sz (f_X4_switchLoad n x1 x2 S) := by
  unfold gMi
  refine Met.ofW (cc := cX4_switchLoad) (maxL := 3) (ret := (some .int)) (by decide) rfl ?_
  intro p e s m args below meth c s₁ B hml hv
  obtain ⟨rfl, rfl, hP, hK⟩ := hv
  have hx := B.exec
  have hb := B.bytes
  have hr := B.returns
  have hts := atoms_spec (ws := wsX4_switchLoad) B.pre
  have hown : s.vm.findClass RX4 = some m.cls := findClass_of_methodNamed B.named
  have hlocks := B.notSynchronized
  have hS : va_S (wA 27 b s.heap.size) s.heap s.heap [] := va_S.rf
  have hw4 : ∀ w ∈ wsX40, w.before ([.ref (b 0), .int x1, .int x2] : List Value).toArray s = true := fun w hw => hts w ((by decide +kernel : ∀ w ∈ wsX40, w ∈ wsX4_switchLoad) w hw)
  have hl := lv_entry ([.ref (b 0), .int x1, .int x2]) (n := 3) (Nat.le_of_ble_eq_true rfl)
  rw [lg_entry_eq]
  generalize (lg_sl ([.ref (b 0), .int x1, .int x2] : List Value) ++ List.replicate (3 - (lg_sl ([.ref (b 0), .int x1, .int x2] : List Value)).length) Slot.unset).toArray = ls at hl ⊢
  have hl : lv_has ls 3 [(0, .ref (b 0)), (1, .int x1), (2, .int x2)] := hl
  generalize hF : f_X4_switchLoad n x1 x2 S = F
  have h : f_X4_switchLoad n x1 x2 S = F := hF
  clear hF
  show W p l e ({ frames := 2, cells := 0, slots := 0, locals := 43 } : Room) s m ([.ref (b 0), .int x1, .int x2] : List Value).toArray below meth c s.heap [] 0 0 (gQi below G (MW G.2 b n) 27 b F ([.ref (b 0), .int x1, .int x2] : List Value).toArray s) (F0 m 0 ls [])
  have J14 : ∀ (S14 : MS) (s1_14 : Int32), (isB s1_14) → (s1_14 ≤ 0 → vp_in x1 10) → f_X4_switchLoad_b14 n x1 x2 S14 s1_14 = F → ∀ (H : Heap) (locs : List Loc) (ls : Array Slot), wM G b n S14 H → va_S (wA 27 b s.heap.size) s.heap H locs → lv_has ls 3 [(0, .ref (b 0)), (1, .int x1), (2, .int x2)] → W p l e ({ frames := 2, cells := 0, slots := 0, locals := 43 } : Room) s m ([.ref (b 0), .int x1, .int x2] : List Value).toArray below meth c H locs 0 0 (gQi below G (MW G.2 b n) 27 b F ([.ref (b 0), .int x1, .int x2] : List Value).toArray s) (F0 m 14 ls [.int s1_14, .ref (b 0)]) := by
    intro S14 s1_14 hbs1_14 hj14 h H locs ls hP hS hl
    have J58 : ∀ (S58 : MS) (s2_58 : Int32), (vp_in x1 10) → f_X4_switchLoad_b58 n x1 x2 S58 s2_58 = F → ∀ (H : Heap) (locs : List Loc) (ls : Array Slot), wM G b n S58 H → va_S (wA 27 b s.heap.size) s.heap H locs → lv_has ls 3 [(0, .ref (b 0)), (1, .int x1)] → W p l e ({ frames := 2, cells := 0, slots := 0, locals := 43 } : Room) s m ([.ref (b 0), .int x1, .int x2] : List Value).toArray below meth c H locs 0 0 (gQi below G (MW G.2 b n) 27 b F ([.ref (b 0), .int x1, .int x2] : List Value).toArray s) (F0 m 58 ls [.int s2_58, .int x1, .ref (b 3)]) := by
      intro S58 s2_58 hix h H locs ls hP hS hl
      rewrite [f_X4_switchLoad_b58] at h
      refine mstI hx hb hK ha hP hS 3 (by decide) hix dX4_switchLoad_58 (fun H locs hP hS => ?_)
      refine lv_aload_n hx hb dX4_switchLoad_59 rfl (lv_at hl 0 rfl) ?_
      refine mg hx hb hw4 hown hK hP 10 (by decide) (v := .ref (b 3)) rfl (hts (.fieldLink RX4 30 "BackupPowerModel" "states" "[I") (by decide +kernel)) dX4_switchLoad_60 ?_
      refine lv_iload_n hx hb dX4_switchLoad_63 rfl (lv_at hl 1 rfl) ?_
      refine mldI hx hb hK hP 3 (by decide) hix dX4_switchLoad_64 ?_
      exact gRi (wf := MW G.2 b n) (S := (muA S58 3 x1.toNatClampNeg s2_58)) hx hb hr hlocks hP hS h dX4_switchLoad_65
    rewrite [f_X4_switchLoad_b14] at h
    refine mp hx hb hw4 hown hK ha hP hS 0 (by decide) rfl rfl okI (hts (.fieldLink RX4 103 "BackupPowerModel" "thrown" "I") (by decide +kernel)) dX4_switchLoad_14 (fun H locs hP hS => ?_)
    refine lv_aload_n hx hb dX4_switchLoad_17 rfl (lv_at hl 0 rfl) ?_
    refine mg hx hb hw4 hown hK hP 0 (by decide) (v := .int ((muS S14 0 s1_14).1 0)) rfl (hts (.fieldLink RX4 103 "BackupPowerModel" "thrown" "I") (by decide +kernel)) dX4_switchLoad_18 ?_
    refine lv_if_le (tgt := 26) hx hb dX4_switchLoad_21 (by decide) (fun c21 => ?_) (fun c21 => ?_)
    · rewrite [if_pos c21] at h
      have hix : vp_in x1 10 := hj14 (by simpa [muS, up1] using c21)
      refine lv_aload_n hx hb dX4_switchLoad_26 rfl (lv_at hl 0 rfl) ?_
      refine mg hx hb hw4 hown hK hP 10 (by decide) (v := .ref (b 3)) rfl (hts (.fieldLink RX4 30 "BackupPowerModel" "states" "[I") (by decide +kernel)) dX4_switchLoad_27 ?_
      refine lv_iload_n hx hb dX4_switchLoad_30 rfl (lv_at hl 1 rfl) ?_
      refine lv_iload_n hx hb dX4_switchLoad_31 rfl (lv_at hl 2 rfl) ?_
      refine lv_if_ne (tgt := 39) hx hb dX4_switchLoad_32 (by decide) (fun c32 => ?_) (fun c32 => ?_)
      · rewrite [if_neg c32] at h
        refine lv_aload_n hx hb dX4_switchLoad_39 rfl (lv_at hl 0 rfl) ?_
        refine mg hx hb hw4 hown hK hP 10 (by decide) (v := .ref (b 3)) rfl (hts (.fieldLink RX4 30 "BackupPowerModel" "states" "[I") (by decide +kernel)) dX4_switchLoad_40 ?_
        refine lv_iload_n hx hb dX4_switchLoad_43 rfl (lv_at hl 1 rfl) ?_
        refine mldI hx hb hK hP 3 (by decide) hix dX4_switchLoad_44 ?_
        refine lv_if_ne (tgt := 52) hx hb dX4_switchLoad_45 (by decide) (fun c45 => ?_) (fun c45 => ?_)
        · rewrite [if_neg c45] at h
          refine lv_aload_n hx hb dX4_switchLoad_52 rfl (lv_at hl 0 rfl) ?_
          refine mg hx hb hw4 hown hK hP 10 (by decide) (v := .ref (b 3)) rfl (hts (.fieldLink RX4 30 "BackupPowerModel" "states" "[I") (by decide +kernel)) dX4_switchLoad_53 ?_
          refine lv_iload_n hx hb dX4_switchLoad_56 rfl (lv_at hl 1 rfl) ?_
          refine mldI hx hb hK hP 3 (by decide) hix dX4_switchLoad_57 ?_
          exact J58 (muS S14 0 s1_14) ((muS S14 0 s1_14).2 3 x1.toNatClampNeg) hix h _ _ _ hP hS (lv_sub hl [0, 1] rfl)
        · rewrite [if_pos c45] at h
          refine lv_iconst (v := 2) hx hb dX4_switchLoad_48 (by decide) ?_
          refine lv_goto (tgt := 58) hx hb dX4_switchLoad_49 (by decide) ?_
          exact J58 (muS S14 0 s1_14) 2 hix h _ _ _ hP hS (lv_sub hl [0, 1] rfl)
      · rewrite [if_pos c32] at h
        refine lv_iconst (v := 0) hx hb dX4_switchLoad_35 (by decide) ?_
        refine lv_goto (tgt := 58) hx hb dX4_switchLoad_36 (by decide) ?_
        exact J58 (muS S14 0 s1_14) 0 hix h _ _ _ hP hS (lv_sub hl [0, 1] rfl)
    · rewrite [if_neg c21] at h
      refine lv_iconst (v := 0) hx hb dX4_switchLoad_24 (by decide) ?_
      exact gRi (wf := MW G.2 b n) (S := (muS S14 0 s1_14)) hx hb hr hlocks hP hS h dX4_switchLoad_25
  rewrite [f_X4_switchLoad] at h
  refine lv_aload_n hx hb dX4_switchLoad_0 rfl (lv_at hl 0 rfl) ?_
  refine lv_aload_n hx hb dX4_switchLoad_1 rfl (lv_at hl 0 rfl) ?_
  refine lv_iload_n hx hb dX4_switchLoad_2 rfl (lv_at hl 1 rfl) ?_
  refine gcVz (wf := MW G.2 b n) (N := 27) (ad := b) (As := [.int x1]) (rest := [.ref (b 0)]) (S := S) ⟨hx, hb, hml, hown, hts⟩ hK hP hS (c_X4_isLoad l G b ha n hn x1 S _) (cwV 1 hts gX4_switchLoad_X4_isLoad rfl rfl rfl (by decide +kernel) ⟨Nat.le_of_ble_eq_true rfl, Nat.le_of_ble_eq_true rfl⟩) (mrO hK hP) rfl hl.1 rfl (Nat.le_of_ble_eq_true rfl) dX4_switchLoad_3 ⟨Nat.le_of_ble_eq_true rfl, Nat.le_of_ble_eq_true rfl⟩ (fun p3 H locs ep3 hbp3 hP hS => ?_)
  rewrite [← ep3] at h
  rewrite [f_X4_switchLoad_c3] at h
  refine lv_if_eq (tgt := 13) hx hb dX4_switchLoad_6 (by decide) (fun c6 => ?_) (fun c6 => ?_)
  · rewrite [if_pos c6] at h
    refine lv_iconst (v := 1) hx hb dX4_switchLoad_13 (by decide) ?_
    exact J14 p3.2 1 isB_1 (by first | (intro z; exact absurd z (by decide)) | (intro _; exact isLoad_in hn ep3 c6)) h _ _ _ hP hS (lv_sub hl [0, 1, 2] rfl)
  · rewrite [if_neg c6] at h
    refine lv_iconst (v := 0) hx hb dX4_switchLoad_9 (by decide) ?_
    refine lv_goto (tgt := 14) hx hb dX4_switchLoad_10 (by decide) ?_
    exact J14 p3.2 0 isB_0 (by first | (intro z; exact absurd z (by decide)) | (intro _; exact isLoad_in hn ep3 c6)) h _ _ _ hP hS (lv_sub hl [0, 1, 2] rfl)

def f_X4_setPower_b29 (n : Nat × Nat × Nat) (x1 : Int32) (x2 : Int32) (S29 : MS) (s1_29 : Int32) : Int32 × MS := (if ((muS S29 0 s1_29).1 0) ≤ 0 then ((muS S29 0 s1_29).2 2 x1.toNatClampNeg, (muA (muS S29 0 s1_29) 2 x1.toNatClampNeg x2)) else (0, (muS S29 0 s1_29)))
def f_X4_setPower_c18 (n : Nat × Nat × Nat) (x1 : Int32) (x2 : Int32) (p18 : Int32 × MS) : Int32 × MS := (if p18.1 = 0 then (f_X4_setPower_b29 n x1 x2 p18.2 2) else (f_X4_setPower_b29 n x1 x2 p18.2 0))
def f_X4_setPower_c3 (n : Nat × Nat × Nat) (x1 : Int32) (x2 : Int32) (p3 : Int32 × MS) : Int32 × MS := (if p3.1 = 0 then (f_X4_setPower_b29 n x1 x2 p3.2 1) else (f_X4_setPower_c18 n x1 x2 (f_X4_in n x2 1 500 p3.2)))
def f_X4_setPower (n : Nat × Nat × Nat) (x1 : Int32) (x2 : Int32) (S : MS) : Int32 × MS := (f_X4_setPower_c3 n x1 x2 (f_X4_isLoad n x1 S))
set_option maxHeartbeats 4000000 in
set_option maxRecDepth 100000 in
theorem c_X4_setPower (l : Launch) (G : WG) (b : Nat → Nat) (ha : wInj 27 b) (n : Nat × Nat × Nat) (hn : n.1 ≤ 10 ∧ n.2.1 ≤ 3 ∧ n.2.2 ≤ 3) (x1 : Int32) (x2 : Int32) (S : MS) (sz : Nat) : gMi l yX4_setPower wsX4_setPower ({ frames := 2, cells := 0, slots := 0, locals := 43 }) G 27 b (MW G.2 b n) [.ref (b 0), .int x1, .int x2] S sz (f_X4_setPower n x1 x2 S) := by
  unfold gMi
  refine Met.ofW (cc := cX4_setPower) (maxL := 4) (ret := (some .int)) (by decide) rfl ?_
  intro p e s m args below meth c s₁ B hml hv
  obtain ⟨rfl, rfl, hP, hK⟩ := hv
  have hx := B.exec
  have hb := B.bytes
  have hr := B.returns
  have hts := atoms_spec (ws := wsX4_setPower) B.pre
  have hown : s.vm.findClass RX4 = some m.cls := findClass_of_methodNamed B.named
  have hlocks := B.notSynchronized
  have hS : va_S (wA 27 b s.heap.size) s.heap s.heap [] := va_S.rf
  have hw4 : ∀ w ∈ wsX40, w.before ([.ref (b 0), .int x1, .int x2] : List Value).toArray s = true := fun w hw => hts w ((by decide +kernel : ∀ w ∈ wsX40, w ∈ wsX4_setPower) w hw)
  have hl := lv_entry ([.ref (b 0), .int x1, .int x2]) (n := 4) (Nat.le_of_ble_eq_true rfl)
  rw [lg_entry_eq]
  generalize (lg_sl ([.ref (b 0), .int x1, .int x2] : List Value) ++ List.replicate (4 - (lg_sl ([.ref (b 0), .int x1, .int x2] : List Value)).length) Slot.unset).toArray = ls at hl ⊢
  have hl : lv_has ls 4 [(0, .ref (b 0)), (1, .int x1), (2, .int x2)] := hl
  generalize hF : f_X4_setPower n x1 x2 S = F
  have h : f_X4_setPower n x1 x2 S = F := hF
  clear hF
  show W p l e ({ frames := 2, cells := 0, slots := 0, locals := 43 } : Room) s m ([.ref (b 0), .int x1, .int x2] : List Value).toArray below meth c s.heap [] 0 0 (gQi below G (MW G.2 b n) 27 b F ([.ref (b 0), .int x1, .int x2] : List Value).toArray s) (F0 m 0 ls [])
  have J29 : ∀ (S29 : MS) (s1_29 : Int32), (s1_29 ≤ 0 → vp_in x1 10) → f_X4_setPower_b29 n x1 x2 S29 s1_29 = F → ∀ (H : Heap) (locs : List Loc) (ls : Array Slot), wM G b n S29 H → va_S (wA 27 b s.heap.size) s.heap H locs → lv_has ls 4 [(0, .ref (b 0)), (1, .int x1), (2, .int x2)] → W p l e ({ frames := 2, cells := 0, slots := 0, locals := 43 } : Room) s m ([.ref (b 0), .int x1, .int x2] : List Value).toArray below meth c H locs 0 0 (gQi below G (MW G.2 b n) 27 b F ([.ref (b 0), .int x1, .int x2] : List Value).toArray s) (F0 m 29 ls [.int s1_29, .ref (b 0)]) := by
    intro S29 s1_29 hj29 h H locs ls hP hS hl
    rewrite [f_X4_setPower_b29] at h
    refine mp hx hb hw4 hown hK ha hP hS 0 (by decide) rfl rfl okI (hts (.fieldLink RX4 103 "BackupPowerModel" "thrown" "I") (by decide +kernel)) dX4_setPower_29 (fun H locs hP hS => ?_)
    refine lv_aload_n hx hb dX4_setPower_32 rfl (lv_at hl 0 rfl) ?_
    refine mg hx hb hw4 hown hK hP 0 (by decide) (v := .int ((muS S29 0 s1_29).1 0)) rfl (hts (.fieldLink RX4 103 "BackupPowerModel" "thrown" "I") (by decide +kernel)) dX4_setPower_33 ?_
    refine lv_if_le (tgt := 41) hx hb dX4_setPower_36 (by decide) (fun c36 => ?_) (fun c36 => ?_)
    · rewrite [if_pos c36] at h
      have hix : vp_in x1 10 := hj29 (by simpa [muS, up1] using c36)
      refine lv_aload_n hx hb dX4_setPower_41 rfl (lv_at hl 0 rfl) ?_
      refine mg hx hb hw4 hown hK hP 9 (by decide) (v := .ref (b 2)) rfl (hts (.fieldLink RX4 27 "BackupPowerModel" "powers" "[I") (by decide +kernel)) dX4_setPower_42 ?_
      refine lv_iload_n hx hb dX4_setPower_45 rfl (lv_at hl 1 rfl) ?_
      refine mldI hx hb hK hP 2 (by decide) hix dX4_setPower_46 ?_
      refine lv_istore_n (lv' := [(3, .int ((muS S29 0 s1_29).2 2 x1.toNatClampNeg)), (0, .ref (b 0)), (1, .int x1), (2, .int x2)]) hx hb dX4_setPower_47 rfl hl (by decide) rfl (fun ls hl => ?_)
      refine lv_aload_n hx hb dX4_setPower_48 rfl (lv_at hl 1 rfl) ?_
      refine mg hx hb hw4 hown hK hP 9 (by decide) (v := .ref (b 2)) rfl (hts (.fieldLink RX4 27 "BackupPowerModel" "powers" "[I") (by decide +kernel)) dX4_setPower_49 ?_
      refine lv_iload_n hx hb dX4_setPower_52 rfl (lv_at hl 2 rfl) ?_
      refine lv_iload_n hx hb dX4_setPower_53 rfl (lv_at hl 3 rfl) ?_
      refine mstI hx hb hK ha hP hS 2 (by decide) hix dX4_setPower_54 (fun H locs hP hS => ?_)
      refine lv_iload_n hx hb dX4_setPower_55 rfl (lv_at hl 0 rfl) ?_
      exact gRi (wf := MW G.2 b n) (S := (muA (muS S29 0 s1_29) 2 x1.toNatClampNeg x2)) hx hb hr hlocks hP hS h dX4_setPower_56
    · rewrite [if_neg c36] at h
      refine lv_iconst (v := 0) hx hb dX4_setPower_39 (by decide) ?_
      exact gRi (wf := MW G.2 b n) (S := (muS S29 0 s1_29)) hx hb hr hlocks hP hS h dX4_setPower_40
  rewrite [f_X4_setPower] at h
  refine lv_aload_n hx hb dX4_setPower_0 rfl (lv_at hl 0 rfl) ?_
  refine lv_aload_n hx hb dX4_setPower_1 rfl (lv_at hl 0 rfl) ?_
  refine lv_iload_n hx hb dX4_setPower_2 rfl (lv_at hl 1 rfl) ?_
  refine gcVz (wf := MW G.2 b n) (N := 27) (ad := b) (As := [.int x1]) (rest := [.ref (b 0)]) (S := S) ⟨hx, hb, hml, hown, hts⟩ hK hP hS (c_X4_isLoad l G b ha n hn x1 S _) (cwV 1 hts gX4_setPower_X4_isLoad rfl rfl rfl (by decide +kernel) ⟨Nat.le_of_ble_eq_true rfl, Nat.le_of_ble_eq_true rfl⟩) (mrO hK hP) rfl hl.1 rfl (Nat.le_of_ble_eq_true rfl) dX4_setPower_3 ⟨Nat.le_of_ble_eq_true rfl, Nat.le_of_ble_eq_true rfl⟩ (fun p3 H locs ep3 hbp3 hP hS => ?_)
  rewrite [← ep3] at h
  rewrite [f_X4_setPower_c3] at h
  refine lv_if_ne (tgt := 13) hx hb dX4_setPower_6 (by decide) (fun c6 => ?_) (fun c6 => ?_)
  · rewrite [if_neg c6] at h
    refine lv_iload_n hx hb dX4_setPower_13 rfl (lv_at hl 2 rfl) ?_
    refine lv_iconst (v := 1) hx hb dX4_setPower_14 (by decide) ?_
    refine lv_sipush (v := 500) hx hb dX4_setPower_15 (by decide) ?_
    refine gcSz (wf := MW G.2 b n) (N := 27) (ad := b) (As := [.int x2, .int 1, .int 500]) (rest := [.ref (b 0)]) (S := p3.2) ⟨hx, hb, hml, hown, hts⟩ hK hP hS (c_X4_in l G b ha n hn x2 1 500 p3.2 _) (va_cwS 3 hts gX4_setPower_X4_in rfl rfl rfl (by decide +kernel) ⟨Nat.le_of_ble_eq_true rfl, Nat.le_of_ble_eq_true rfl⟩) rfl hl.1 rfl (Nat.le_of_ble_eq_true rfl) dX4_setPower_18 ⟨Nat.le_of_ble_eq_true rfl, Nat.le_of_ble_eq_true rfl⟩ (fun p18 H locs ep18 hbp18 hP hS => ?_)
    rewrite [← ep18] at h
    rewrite [f_X4_setPower_c18] at h
    refine lv_if_eq (tgt := 28) hx hb dX4_setPower_21 (by decide) (fun c21 => ?_) (fun c21 => ?_)
    · rewrite [if_pos c21] at h
      refine lv_iconst (v := 2) hx hb dX4_setPower_28 (by decide) ?_
      exact J29 p18.2 2 (by first | (intro z; exact absurd z (by decide)) | (intro _; exact isLoad_in hn ep3 c6)) h _ _ _ hP hS (lv_sub hl [0, 1, 2] rfl)
    · rewrite [if_neg c21] at h
      refine lv_iconst (v := 0) hx hb dX4_setPower_24 (by decide) ?_
      refine lv_goto (tgt := 29) hx hb dX4_setPower_25 (by decide) ?_
      exact J29 p18.2 0 (by first | (intro z; exact absurd z (by decide)) | (intro _; exact isLoad_in hn ep3 c6)) h _ _ _ hP hS (lv_sub hl [0, 1, 2] rfl)
  · rewrite [if_pos c6] at h
    refine lv_iconst (v := 1) hx hb dX4_setPower_9 (by decide) ?_
    refine lv_goto (tgt := 29) hx hb dX4_setPower_10 (by decide) ?_
    exact J29 p3.2 1 (by first | (intro z; exact absurd z (by decide)) | (intro _; exact isLoad_in hn ep3 c6)) h _ _ _ hP hS (lv_sub hl [0, 1, 2] rfl)

def f_X4_refuel_c55 (n : Nat × Nat × Nat) (x1 : Int32) (x2 : Int32) (p55 : Int32 × MS) : Int32 × MS := (p55.1, (muA p55.2 15 x1.toNatClampNeg ((p55.2.2 15 x1.toNatClampNeg) + p55.1)))
def f_X4_refuel_b29 (n : Nat × Nat × Nat) (x1 : Int32) (x2 : Int32) (S29 : MS) (s1_29 : Int32) : Int32 × MS := (if ((muS S29 0 s1_29).1 0) ≤ 0 then (f_X4_refuel_c55 n x1 x2 (f_X4_lesser n x2 (((muS S29 0 s1_29).2 14 x1.toNatClampNeg) - ((muS S29 0 s1_29).2 15 x1.toNatClampNeg)) (muS S29 0 s1_29))) else (0, (muS S29 0 s1_29)))
def f_X4_refuel_c18 (n : Nat × Nat × Nat) (x1 : Int32) (x2 : Int32) (p18 : Int32 × MS) : Int32 × MS := (if p18.1 = 0 then (f_X4_refuel_b29 n x1 x2 p18.2 2) else (f_X4_refuel_b29 n x1 x2 p18.2 0))
def f_X4_refuel_c3 (n : Nat × Nat × Nat) (x1 : Int32) (x2 : Int32) (p3 : Int32 × MS) : Int32 × MS := (if p3.1 = 0 then (f_X4_refuel_b29 n x1 x2 p3.2 1) else (f_X4_refuel_c18 n x1 x2 (f_X4_in n x2 1 1000 p3.2)))
def f_X4_refuel (n : Nat × Nat × Nat) (x1 : Int32) (x2 : Int32) (S : MS) : Int32 × MS := (f_X4_refuel_c3 n x1 x2 (f_X4_isGenerator n x1 S))
set_option maxHeartbeats 4000000 in
set_option maxRecDepth 100000 in
theorem c_X4_refuel (l : Launch) (G : WG) (b : Nat → Nat) (ha : wInj 27 b) (n : Nat × Nat × Nat) (hn : n.1 ≤ 10 ∧ n.2.1 ≤ 3 ∧ n.2.2 ≤ 3) (x1 : Int32) (x2 : Int32) (S : MS) (sz : Nat) : gMi l yX4_refuel wsX4_refuel ({ frames := 2, cells := 0, slots := 0, locals := 43 }) G 27 b (MW G.2 b n) [.ref (b 0), .int x1, .int x2] S sz (f_X4_refuel n x1 x2 S) := by
  unfold gMi
  refine Met.ofW (cc := cX4_refuel) (maxL := 4) (ret := (some .int)) (by decide) rfl ?_
  intro p e s m args below meth c s₁ B hml hv
  obtain ⟨rfl, rfl, hP, hK⟩ := hv
  have hx := B.exec
  have hb := B.bytes
  have hr := B.returns
  have hts := atoms_spec (ws := wsX4_refuel) B.pre
  have hown : s.vm.findClass RX4 = some m.cls := findClass_of_methodNamed B.named
  have hlocks := B.notSynchronized
  have hS : va_S (wA 27 b s.heap.size) s.heap s.heap [] := va_S.rf
  have hw4 : ∀ w ∈ wsX40, w.before ([.ref (b 0), .int x1, .int x2] : List Value).toArray s = true := fun w hw => hts w ((by decide +kernel : ∀ w ∈ wsX40, w ∈ wsX4_refuel) w hw)
  have hl := lv_entry ([.ref (b 0), .int x1, .int x2]) (n := 4) (Nat.le_of_ble_eq_true rfl)
  rw [lg_entry_eq]
  generalize (lg_sl ([.ref (b 0), .int x1, .int x2] : List Value) ++ List.replicate (4 - (lg_sl ([.ref (b 0), .int x1, .int x2] : List Value)).length) Slot.unset).toArray = ls at hl ⊢
  have hl : lv_has ls 4 [(0, .ref (b 0)), (1, .int x1), (2, .int x2)] := hl
  generalize hF : f_X4_refuel n x1 x2 S = F
  have h : f_X4_refuel n x1 x2 S = F := hF
  clear hF
  show W p l e ({ frames := 2, cells := 0, slots := 0, locals := 43 } : Room) s m ([.ref (b 0), .int x1, .int x2] : List Value).toArray below meth c s.heap [] 0 0 (gQi below G (MW G.2 b n) 27 b F ([.ref (b 0), .int x1, .int x2] : List Value).toArray s) (F0 m 0 ls [])
  have J29 : ∀ (S29 : MS) (s1_29 : Int32), (s1_29 ≤ 0 → vp_in x1 3) → f_X4_refuel_b29 n x1 x2 S29 s1_29 = F → ∀ (H : Heap) (locs : List Loc) (ls : Array Slot), wM G b n S29 H → va_S (wA 27 b s.heap.size) s.heap H locs → lv_has ls 4 [(0, .ref (b 0)), (1, .int x1), (2, .int x2)] → W p l e ({ frames := 2, cells := 0, slots := 0, locals := 43 } : Room) s m ([.ref (b 0), .int x1, .int x2] : List Value).toArray below meth c H locs 0 0 (gQi below G (MW G.2 b n) 27 b F ([.ref (b 0), .int x1, .int x2] : List Value).toArray s) (F0 m 29 ls [.int s1_29, .ref (b 0)]) := by
    intro S29 s1_29 hj29 h H locs ls hP hS hl
    rewrite [f_X4_refuel_b29] at h
    refine mp hx hb hw4 hown hK ha hP hS 0 (by decide) rfl rfl okI (hts (.fieldLink RX4 103 "BackupPowerModel" "thrown" "I") (by decide +kernel)) dX4_refuel_29 (fun H locs hP hS => ?_)
    refine lv_aload_n hx hb dX4_refuel_32 rfl (lv_at hl 0 rfl) ?_
    refine mg hx hb hw4 hown hK hP 0 (by decide) (v := .int ((muS S29 0 s1_29).1 0)) rfl (hts (.fieldLink RX4 103 "BackupPowerModel" "thrown" "I") (by decide +kernel)) dX4_refuel_33 ?_
    refine lv_if_le (tgt := 41) hx hb dX4_refuel_36 (by decide) (fun c36 => ?_) (fun c36 => ?_)
    · rewrite [if_pos c36] at h
      have hix : vp_in x1 3 := hj29 (by simpa [muS, up1] using c36)
      refine lv_iload_n hx hb dX4_refuel_41 rfl (lv_at hl 2 rfl) ?_
      refine lv_aload_n hx hb dX4_refuel_42 rfl (lv_at hl 0 rfl) ?_
      refine mg hx hb hw4 hown hK hP 23 (by decide) (v := .ref (b 14)) rfl (hts (.fieldLink RX4 63 "BackupPowerModel" "tanks" "[I") (by decide +kernel)) dX4_refuel_43 ?_
      refine lv_iload_n hx hb dX4_refuel_46 rfl (lv_at hl 1 rfl) ?_
      refine mldI hx hb hK hP 14 (by decide) hix dX4_refuel_47 ?_
      refine lv_aload_n hx hb dX4_refuel_48 rfl (lv_at hl 0 rfl) ?_
      refine mg hx hb hw4 hown hK hP 24 (by decide) (v := .ref (b 15)) rfl (hts (.fieldLink RX4 66 "BackupPowerModel" "fuels" "[I") (by decide +kernel)) dX4_refuel_49 ?_
      refine lv_iload_n hx hb dX4_refuel_52 rfl (lv_at hl 1 rfl) ?_
      refine mldI hx hb hK hP 15 (by decide) hix dX4_refuel_53 ?_
      refine lv_isub hx hb dX4_refuel_54 ?_
      refine gcSi (wf := MW G.2 b n) (N := 27) (ad := b) (As := [.int x2, .int (((muS S29 0 s1_29).2 14 x1.toNatClampNeg) - ((muS S29 0 s1_29).2 15 x1.toNatClampNeg))]) (rest := []) (S := muS S29 0 s1_29) ⟨hx, hb, hml, hown, hts⟩ hK hP hS (c_X4_lesser l G b ha n hn x2 (((muS S29 0 s1_29).2 14 x1.toNatClampNeg) - ((muS S29 0 s1_29).2 15 x1.toNatClampNeg)) (muS S29 0 s1_29) _) (va_cwS 2 hts gX4_refuel_X4_lesser rfl rfl rfl (by decide +kernel) ⟨Nat.le_of_ble_eq_true rfl, Nat.le_of_ble_eq_true rfl⟩) rfl hl.1 rfl (Nat.le_of_ble_eq_true rfl) dX4_refuel_55 ⟨Nat.le_of_ble_eq_true rfl, Nat.le_of_ble_eq_true rfl⟩ (fun p55 H locs ep55 hP hS => ?_)
      rewrite [← ep55] at h
      rewrite [f_X4_refuel_c55] at h
      refine lv_istore_n (lv' := [(3, .int p55.1), (0, .ref (b 0)), (1, .int x1), (2, .int x2)]) hx hb dX4_refuel_58 rfl hl (by decide) rfl (fun ls hl => ?_)
      refine lv_aload_n hx hb dX4_refuel_59 rfl (lv_at hl 1 rfl) ?_
      refine mg hx hb hw4 hown hK hP 24 (by decide) (v := .ref (b 15)) rfl (hts (.fieldLink RX4 66 "BackupPowerModel" "fuels" "[I") (by decide +kernel)) dX4_refuel_60 ?_
      refine lv_iload_n hx hb dX4_refuel_63 rfl (lv_at hl 2 rfl) ?_
      refine lv_dup2_11 hx hb dX4_refuel_64 rfl rfl ?_
      refine mldI hx hb hK hP 15 (by decide) hix dX4_refuel_65 ?_
      refine lv_iload_n hx hb dX4_refuel_66 rfl (lv_at hl 0 rfl) ?_
      refine lv_iadd hx hb dX4_refuel_67 ?_
      refine mstI hx hb hK ha hP hS 15 (by decide) hix dX4_refuel_68 (fun H locs hP hS => ?_)
      refine lv_iload_n hx hb dX4_refuel_69 rfl (lv_at hl 0 rfl) ?_
      exact gRi (wf := MW G.2 b n) (S := (muA p55.2 15 x1.toNatClampNeg ((p55.2.2 15 x1.toNatClampNeg) + p55.1))) hx hb hr hlocks hP hS h dX4_refuel_70
    · rewrite [if_neg c36] at h
      refine lv_iconst (v := 0) hx hb dX4_refuel_39 (by decide) ?_
      exact gRi (wf := MW G.2 b n) (S := (muS S29 0 s1_29)) hx hb hr hlocks hP hS h dX4_refuel_40
  rewrite [f_X4_refuel] at h
  refine lv_aload_n hx hb dX4_refuel_0 rfl (lv_at hl 0 rfl) ?_
  refine lv_aload_n hx hb dX4_refuel_1 rfl (lv_at hl 0 rfl) ?_
  refine lv_iload_n hx hb dX4_refuel_2 rfl (lv_at hl 1 rfl) ?_
  refine gcVz (wf := MW G.2 b n) (N := 27) (ad := b) (As := [.int x1]) (rest := [.ref (b 0)]) (S := S) ⟨hx, hb, hml, hown, hts⟩ hK hP hS (c_X4_isGenerator l G b ha n hn x1 S _) (cwV 1 hts gX4_refuel_X4_isGenerator rfl rfl rfl (by decide +kernel) ⟨Nat.le_of_ble_eq_true rfl, Nat.le_of_ble_eq_true rfl⟩) (mrO hK hP) rfl hl.1 rfl (Nat.le_of_ble_eq_true rfl) dX4_refuel_3 ⟨Nat.le_of_ble_eq_true rfl, Nat.le_of_ble_eq_true rfl⟩ (fun p3 H locs ep3 hbp3 hP hS => ?_)
  rewrite [← ep3] at h
  rewrite [f_X4_refuel_c3] at h
  refine lv_if_ne (tgt := 13) hx hb dX4_refuel_6 (by decide) (fun c6 => ?_) (fun c6 => ?_)
  · rewrite [if_neg c6] at h
    refine lv_iload_n hx hb dX4_refuel_13 rfl (lv_at hl 2 rfl) ?_
    refine lv_iconst (v := 1) hx hb dX4_refuel_14 (by decide) ?_
    refine lv_sipush (v := 1000) hx hb dX4_refuel_15 (by decide) ?_
    refine gcSz (wf := MW G.2 b n) (N := 27) (ad := b) (As := [.int x2, .int 1, .int 1000]) (rest := [.ref (b 0)]) (S := p3.2) ⟨hx, hb, hml, hown, hts⟩ hK hP hS (c_X4_in l G b ha n hn x2 1 1000 p3.2 _) (va_cwS 3 hts gX4_refuel_X4_in rfl rfl rfl (by decide +kernel) ⟨Nat.le_of_ble_eq_true rfl, Nat.le_of_ble_eq_true rfl⟩) rfl hl.1 rfl (Nat.le_of_ble_eq_true rfl) dX4_refuel_18 ⟨Nat.le_of_ble_eq_true rfl, Nat.le_of_ble_eq_true rfl⟩ (fun p18 H locs ep18 hbp18 hP hS => ?_)
    rewrite [← ep18] at h
    rewrite [f_X4_refuel_c18] at h
    refine lv_if_eq (tgt := 28) hx hb dX4_refuel_21 (by decide) (fun c21 => ?_) (fun c21 => ?_)
    · rewrite [if_pos c21] at h
      refine lv_iconst (v := 2) hx hb dX4_refuel_28 (by decide) ?_
      exact J29 p18.2 2 (by first | (intro z; exact absurd z (by decide)) | (intro _; exact isGen_in hn ep3 c6)) h _ _ _ hP hS (lv_sub hl [0, 1, 2] rfl)
    · rewrite [if_neg c21] at h
      refine lv_iconst (v := 0) hx hb dX4_refuel_24 (by decide) ?_
      refine lv_goto (tgt := 29) hx hb dX4_refuel_25 (by decide) ?_
      exact J29 p18.2 0 (by first | (intro z; exact absurd z (by decide)) | (intro _; exact isGen_in hn ep3 c6)) h _ _ _ hP hS (lv_sub hl [0, 1, 2] rfl)
  · rewrite [if_pos c6] at h
    refine lv_iconst (v := 1) hx hb dX4_refuel_9 (by decide) ?_
    refine lv_goto (tgt := 29) hx hb dX4_refuel_10 (by decide) ?_
    exact J29 p3.2 1 (by first | (intro z; exact absurd z (by decide)) | (intro _; exact isGen_in hn ep3 c6)) h _ _ _ hP hS (lv_sub hl [0, 1, 2] rfl)

def f_X4_setFailures_b27 (n : Nat × Nat × Nat) (x1 : Int32) (x2 : Int32) (S27 : MS) (s1_27 : Int32) : Int32 × MS := (if ((muS S27 0 s1_27).1 0) ≤ 0 then ((muS S27 0 s1_27).2 21 x1.toNatClampNeg, (muA (muS S27 0 s1_27) 21 x1.toNatClampNeg x2)) else (0, (muS S27 0 s1_27)))
def f_X4_setFailures_c16 (n : Nat × Nat × Nat) (x1 : Int32) (x2 : Int32) (p16 : Int32 × MS) : Int32 × MS := (if p16.1 = 0 then (f_X4_setFailures_b27 n x1 x2 p16.2 2) else (f_X4_setFailures_b27 n x1 x2 p16.2 0))
def f_X4_setFailures_c3 (n : Nat × Nat × Nat) (x1 : Int32) (x2 : Int32) (p3 : Int32 × MS) : Int32 × MS := (if p3.1 = 0 then (f_X4_setFailures_b27 n x1 x2 p3.2 1) else (f_X4_setFailures_c16 n x1 x2 (f_X4_in n x2 0 5 p3.2)))
def f_X4_setFailures (n : Nat × Nat × Nat) (x1 : Int32) (x2 : Int32) (S : MS) : Int32 × MS := (f_X4_setFailures_c3 n x1 x2 (f_X4_isGenerator n x1 S))
set_option maxHeartbeats 4000000 in
set_option maxRecDepth 100000 in
theorem c_X4_setFailures (l : Launch) (G : WG) (b : Nat → Nat) (ha : wInj 27 b) (n : Nat × Nat × Nat) (hn : n.1 ≤ 10 ∧ n.2.1 ≤ 3 ∧ n.2.2 ≤ 3) (x1 : Int32) (x2 : Int32) (S : MS) (sz : Nat) : gMi l yX4_setFailures wsX4_setFailures ({ frames := 2, cells := 0, slots := 0, locals := 43 }) G 27 b (MW G.2 b n) [.ref (b 0), .int x1, .int x2] S sz (f_X4_setFailures n x1 x2 S) := by
  unfold gMi
  refine Met.ofW (cc := cX4_setFailures) (maxL := 4) (ret := (some .int)) (by decide) rfl ?_
  intro p e s m args below meth c s₁ B hml hv
  obtain ⟨rfl, rfl, hP, hK⟩ := hv
  have hx := B.exec
  have hb := B.bytes
  have hr := B.returns
  have hts := atoms_spec (ws := wsX4_setFailures) B.pre
  have hown : s.vm.findClass RX4 = some m.cls := findClass_of_methodNamed B.named
  have hlocks := B.notSynchronized
  have hS : va_S (wA 27 b s.heap.size) s.heap s.heap [] := va_S.rf
  have hw4 : ∀ w ∈ wsX40, w.before ([.ref (b 0), .int x1, .int x2] : List Value).toArray s = true := fun w hw => hts w ((by decide +kernel : ∀ w ∈ wsX40, w ∈ wsX4_setFailures) w hw)
  have hl := lv_entry ([.ref (b 0), .int x1, .int x2]) (n := 4) (Nat.le_of_ble_eq_true rfl)
  rw [lg_entry_eq]
  generalize (lg_sl ([.ref (b 0), .int x1, .int x2] : List Value) ++ List.replicate (4 - (lg_sl ([.ref (b 0), .int x1, .int x2] : List Value)).length) Slot.unset).toArray = ls at hl ⊢
  have hl : lv_has ls 4 [(0, .ref (b 0)), (1, .int x1), (2, .int x2)] := hl
  generalize hF : f_X4_setFailures n x1 x2 S = F
  have h : f_X4_setFailures n x1 x2 S = F := hF
  clear hF
  show W p l e ({ frames := 2, cells := 0, slots := 0, locals := 43 } : Room) s m ([.ref (b 0), .int x1, .int x2] : List Value).toArray below meth c s.heap [] 0 0 (gQi below G (MW G.2 b n) 27 b F ([.ref (b 0), .int x1, .int x2] : List Value).toArray s) (F0 m 0 ls [])
  have J27 : ∀ (S27 : MS) (s1_27 : Int32), (s1_27 ≤ 0 → vp_in x1 3) → f_X4_setFailures_b27 n x1 x2 S27 s1_27 = F → ∀ (H : Heap) (locs : List Loc) (ls : Array Slot), wM G b n S27 H → va_S (wA 27 b s.heap.size) s.heap H locs → lv_has ls 4 [(0, .ref (b 0)), (1, .int x1), (2, .int x2)] → W p l e ({ frames := 2, cells := 0, slots := 0, locals := 43 } : Room) s m ([.ref (b 0), .int x1, .int x2] : List Value).toArray below meth c H locs 0 0 (gQi below G (MW G.2 b n) 27 b F ([.ref (b 0), .int x1, .int x2] : List Value).toArray s) (F0 m 27 ls [.int s1_27, .ref (b 0)]) := by
    intro S27 s1_27 hj27 h H locs ls hP hS hl
    rewrite [f_X4_setFailures_b27] at h
    refine mp hx hb hw4 hown hK ha hP hS 0 (by decide) rfl rfl okI (hts (.fieldLink RX4 103 "BackupPowerModel" "thrown" "I") (by decide +kernel)) dX4_setFailures_27 (fun H locs hP hS => ?_)
    refine lv_aload_n hx hb dX4_setFailures_30 rfl (lv_at hl 0 rfl) ?_
    refine mg hx hb hw4 hown hK hP 0 (by decide) (v := .int ((muS S27 0 s1_27).1 0)) rfl (hts (.fieldLink RX4 103 "BackupPowerModel" "thrown" "I") (by decide +kernel)) dX4_setFailures_31 ?_
    refine lv_if_le (tgt := 39) hx hb dX4_setFailures_34 (by decide) (fun c34 => ?_) (fun c34 => ?_)
    · rewrite [if_pos c34] at h
      have hix : vp_in x1 3 := hj27 (by simpa [muS, up1] using c34)
      refine lv_aload_n hx hb dX4_setFailures_39 rfl (lv_at hl 0 rfl) ?_
      refine mg hx hb hw4 hown hK hP 30 (by decide) (v := .ref (b 21)) rfl (hts (.fieldLink RX4 85 "BackupPowerModel" "failures" "[I") (by decide +kernel)) dX4_setFailures_40 ?_
      refine lv_iload_n hx hb dX4_setFailures_43 rfl (lv_at hl 1 rfl) ?_
      refine mldI hx hb hK hP 21 (by decide) hix dX4_setFailures_44 ?_
      refine lv_istore_n (lv' := [(3, .int ((muS S27 0 s1_27).2 21 x1.toNatClampNeg)), (0, .ref (b 0)), (1, .int x1), (2, .int x2)]) hx hb dX4_setFailures_45 rfl hl (by decide) rfl (fun ls hl => ?_)
      refine lv_aload_n hx hb dX4_setFailures_46 rfl (lv_at hl 1 rfl) ?_
      refine mg hx hb hw4 hown hK hP 30 (by decide) (v := .ref (b 21)) rfl (hts (.fieldLink RX4 85 "BackupPowerModel" "failures" "[I") (by decide +kernel)) dX4_setFailures_47 ?_
      refine lv_iload_n hx hb dX4_setFailures_50 rfl (lv_at hl 2 rfl) ?_
      refine lv_iload_n hx hb dX4_setFailures_51 rfl (lv_at hl 3 rfl) ?_
      refine mstI hx hb hK ha hP hS 21 (by decide) hix dX4_setFailures_52 (fun H locs hP hS => ?_)
      refine lv_iload_n hx hb dX4_setFailures_53 rfl (lv_at hl 0 rfl) ?_
      exact gRi (wf := MW G.2 b n) (S := (muA (muS S27 0 s1_27) 21 x1.toNatClampNeg x2)) hx hb hr hlocks hP hS h dX4_setFailures_54
    · rewrite [if_neg c34] at h
      refine lv_iconst (v := 0) hx hb dX4_setFailures_37 (by decide) ?_
      exact gRi (wf := MW G.2 b n) (S := (muS S27 0 s1_27)) hx hb hr hlocks hP hS h dX4_setFailures_38
  rewrite [f_X4_setFailures] at h
  refine lv_aload_n hx hb dX4_setFailures_0 rfl (lv_at hl 0 rfl) ?_
  refine lv_aload_n hx hb dX4_setFailures_1 rfl (lv_at hl 0 rfl) ?_
  refine lv_iload_n hx hb dX4_setFailures_2 rfl (lv_at hl 1 rfl) ?_
  refine gcVz (wf := MW G.2 b n) (N := 27) (ad := b) (As := [.int x1]) (rest := [.ref (b 0)]) (S := S) ⟨hx, hb, hml, hown, hts⟩ hK hP hS (c_X4_isGenerator l G b ha n hn x1 S _) (cwV 1 hts gX4_setFailures_X4_isGenerator rfl rfl rfl (by decide +kernel) ⟨Nat.le_of_ble_eq_true rfl, Nat.le_of_ble_eq_true rfl⟩) (mrO hK hP) rfl hl.1 rfl (Nat.le_of_ble_eq_true rfl) dX4_setFailures_3 ⟨Nat.le_of_ble_eq_true rfl, Nat.le_of_ble_eq_true rfl⟩ (fun p3 H locs ep3 hbp3 hP hS => ?_)
  rewrite [← ep3] at h
  rewrite [f_X4_setFailures_c3] at h
  refine lv_if_ne (tgt := 13) hx hb dX4_setFailures_6 (by decide) (fun c6 => ?_) (fun c6 => ?_)
  · rewrite [if_neg c6] at h
    refine lv_iload_n hx hb dX4_setFailures_13 rfl (lv_at hl 2 rfl) ?_
    refine lv_iconst (v := 0) hx hb dX4_setFailures_14 (by decide) ?_
    refine lv_iconst (v := 5) hx hb dX4_setFailures_15 (by decide) ?_
    refine gcSz (wf := MW G.2 b n) (N := 27) (ad := b) (As := [.int x2, .int 0, .int 5]) (rest := [.ref (b 0)]) (S := p3.2) ⟨hx, hb, hml, hown, hts⟩ hK hP hS (c_X4_in l G b ha n hn x2 0 5 p3.2 _) (va_cwS 3 hts gX4_setFailures_X4_in rfl rfl rfl (by decide +kernel) ⟨Nat.le_of_ble_eq_true rfl, Nat.le_of_ble_eq_true rfl⟩) rfl hl.1 rfl (Nat.le_of_ble_eq_true rfl) dX4_setFailures_16 ⟨Nat.le_of_ble_eq_true rfl, Nat.le_of_ble_eq_true rfl⟩ (fun p16 H locs ep16 hbp16 hP hS => ?_)
    rewrite [← ep16] at h
    rewrite [f_X4_setFailures_c16] at h
    refine lv_if_eq (tgt := 26) hx hb dX4_setFailures_19 (by decide) (fun c19 => ?_) (fun c19 => ?_)
    · rewrite [if_pos c19] at h
      refine lv_iconst (v := 2) hx hb dX4_setFailures_26 (by decide) ?_
      exact J27 p16.2 2 (by first | (intro z; exact absurd z (by decide)) | (intro _; exact isGen_in hn ep3 c6)) h _ _ _ hP hS (lv_sub hl [0, 1, 2] rfl)
    · rewrite [if_neg c19] at h
      refine lv_iconst (v := 0) hx hb dX4_setFailures_22 (by decide) ?_
      refine lv_goto (tgt := 27) hx hb dX4_setFailures_23 (by decide) ?_
      exact J27 p16.2 0 (by first | (intro z; exact absurd z (by decide)) | (intro _; exact isGen_in hn ep3 c6)) h _ _ _ hP hS (lv_sub hl [0, 1, 2] rfl)
  · rewrite [if_pos c6] at h
    refine lv_iconst (v := 1) hx hb dX4_setFailures_9 (by decide) ?_
    refine lv_goto (tgt := 27) hx hb dX4_setFailures_10 (by decide) ?_
    exact J27 p3.2 1 (by first | (intro z; exact absurd z (by decide)) | (intro _; exact isGen_in hn ep3 c6)) h _ _ _ hP hS (lv_sub hl [0, 1, 2] rfl)

def f_X4_setTests_b39 (n : Nat × Nat × Nat) (x1 : Int32) (x2 : Int32) (x3 : Int32) (S39 : MS) (s1_39 : Int32) : Int32 × MS := (if ((muS S39 0 s1_39).1 0) ≤ 0 then ((muS S39 0 s1_39).2 22 x1.toNatClampNeg, (muA (muA (muS S39 0 s1_39) 22 x1.toNatClampNeg x2) 23 x1.toNatClampNeg x3)) else (0, (muS S39 0 s1_39)))
def f_X4_setTests_b38 (n : Nat × Nat × Nat) (x1 : Int32) (x2 : Int32) (x3 : Int32) (S38 : MS) : Int32 × MS := (f_X4_setTests_b39 n x1 x2 x3 S38 2)
def f_X4_setTests_c28 (n : Nat × Nat × Nat) (x1 : Int32) (x2 : Int32) (x3 : Int32) (p28 : Int32 × MS) : Int32 × MS := (if p28.1 = 0 then (f_X4_setTests_b38 n x1 x2 x3 p28.2) else (f_X4_setTests_b39 n x1 x2 x3 p28.2 0))
def f_X4_setTests_c18 (n : Nat × Nat × Nat) (x1 : Int32) (x2 : Int32) (x3 : Int32) (p18 : Int32 × MS) : Int32 × MS := (if p18.1 = 0 then (f_X4_setTests_b38 n x1 x2 x3 p18.2) else (f_X4_setTests_c28 n x1 x2 x3 (f_X4_in n x3 1 60 p18.2)))
def f_X4_setTests_c3 (n : Nat × Nat × Nat) (x1 : Int32) (x2 : Int32) (x3 : Int32) (p3 : Int32 × MS) : Int32 × MS := (if p3.1 = 0 then (f_X4_setTests_b39 n x1 x2 x3 p3.2 1) else (f_X4_setTests_c18 n x1 x2 x3 (f_X4_in n x2 0 10000 p3.2)))
def f_X4_setTests (n : Nat × Nat × Nat) (x1 : Int32) (x2 : Int32) (x3 : Int32) (S : MS) : Int32 × MS := (f_X4_setTests_c3 n x1 x2 x3 (f_X4_isGenerator n x1 S))
set_option maxHeartbeats 4000000 in
set_option maxRecDepth 100000 in
theorem c_X4_setTests (l : Launch) (G : WG) (b : Nat → Nat) (ha : wInj 27 b) (n : Nat × Nat × Nat) (hn : n.1 ≤ 10 ∧ n.2.1 ≤ 3 ∧ n.2.2 ≤ 3) (x1 : Int32) (x2 : Int32) (x3 : Int32) (S : MS) (sz : Nat) : gMi l yX4_setTests wsX4_setTests ({ frames := 2, cells := 0, slots := 0, locals := 43 }) G 27 b (MW G.2 b n) [.ref (b 0), .int x1, .int x2, .int x3] S sz (f_X4_setTests n x1 x2 x3 S) := by
  unfold gMi
  refine Met.ofW (cc := cX4_setTests) (maxL := 5) (ret := (some .int)) (by decide) rfl ?_
  intro p e s m args below meth c s₁ B hml hv
  obtain ⟨rfl, rfl, hP, hK⟩ := hv
  have hx := B.exec
  have hb := B.bytes
  have hr := B.returns
  have hts := atoms_spec (ws := wsX4_setTests) B.pre
  have hown : s.vm.findClass RX4 = some m.cls := findClass_of_methodNamed B.named
  have hlocks := B.notSynchronized
  have hS : va_S (wA 27 b s.heap.size) s.heap s.heap [] := va_S.rf
  have hw4 : ∀ w ∈ wsX40, w.before ([.ref (b 0), .int x1, .int x2, .int x3] : List Value).toArray s = true := fun w hw => hts w ((by decide +kernel : ∀ w ∈ wsX40, w ∈ wsX4_setTests) w hw)
  have hl := lv_entry ([.ref (b 0), .int x1, .int x2, .int x3]) (n := 5) (Nat.le_of_ble_eq_true rfl)
  rw [lg_entry_eq]
  generalize (lg_sl ([.ref (b 0), .int x1, .int x2, .int x3] : List Value) ++ List.replicate (5 - (lg_sl ([.ref (b 0), .int x1, .int x2, .int x3] : List Value)).length) Slot.unset).toArray = ls at hl ⊢
  have hl : lv_has ls 5 [(0, .ref (b 0)), (1, .int x1), (2, .int x2), (3, .int x3)] := hl
  generalize hF : f_X4_setTests n x1 x2 x3 S = F
  have h : f_X4_setTests n x1 x2 x3 S = F := hF
  clear hF
  show W p l e ({ frames := 2, cells := 0, slots := 0, locals := 43 } : Room) s m ([.ref (b 0), .int x1, .int x2, .int x3] : List Value).toArray below meth c s.heap [] 0 0 (gQi below G (MW G.2 b n) 27 b F ([.ref (b 0), .int x1, .int x2, .int x3] : List Value).toArray s) (F0 m 0 ls [])
  have J39 : ∀ (S39 : MS) (s1_39 : Int32), (s1_39 ≤ 0 → vp_in x1 3) → f_X4_setTests_b39 n x1 x2 x3 S39 s1_39 = F → ∀ (H : Heap) (locs : List Loc) (ls : Array Slot), wM G b n S39 H → va_S (wA 27 b s.heap.size) s.heap H locs → lv_has ls 5 [(0, .ref (b 0)), (1, .int x1), (2, .int x2), (3, .int x3)] → W p l e ({ frames := 2, cells := 0, slots := 0, locals := 43 } : Room) s m ([.ref (b 0), .int x1, .int x2, .int x3] : List Value).toArray below meth c H locs 0 0 (gQi below G (MW G.2 b n) 27 b F ([.ref (b 0), .int x1, .int x2, .int x3] : List Value).toArray s) (F0 m 39 ls [.int s1_39, .ref (b 0)]) := by
    intro S39 s1_39 hj39 h H locs ls hP hS hl
    rewrite [f_X4_setTests_b39] at h
    refine mp hx hb hw4 hown hK ha hP hS 0 (by decide) rfl rfl okI (hts (.fieldLink RX4 103 "BackupPowerModel" "thrown" "I") (by decide +kernel)) dX4_setTests_39 (fun H locs hP hS => ?_)
    refine lv_aload_n hx hb dX4_setTests_42 rfl (lv_at hl 0 rfl) ?_
    refine mg hx hb hw4 hown hK hP 0 (by decide) (v := .int ((muS S39 0 s1_39).1 0)) rfl (hts (.fieldLink RX4 103 "BackupPowerModel" "thrown" "I") (by decide +kernel)) dX4_setTests_43 ?_
    refine lv_if_le (tgt := 51) hx hb dX4_setTests_46 (by decide) (fun c46 => ?_) (fun c46 => ?_)
    · rewrite [if_pos c46] at h
      have hix : vp_in x1 3 := hj39 (by simpa [muS, up1] using c46)
      refine lv_aload_n hx hb dX4_setTests_51 rfl (lv_at hl 0 rfl) ?_
      refine mg hx hb hw4 hown hK hP 31 (by decide) (v := .ref (b 22)) rfl (hts (.fieldLink RX4 88 "BackupPowerModel" "periods" "[I") (by decide +kernel)) dX4_setTests_52 ?_
      refine lv_iload_n hx hb dX4_setTests_55 rfl (lv_at hl 1 rfl) ?_
      refine mldI hx hb hK hP 22 (by decide) hix dX4_setTests_56 ?_
      refine lv_istore (lv' := [(4, .int ((muS S39 0 s1_39).2 22 x1.toNatClampNeg)), (0, .ref (b 0)), (1, .int x1), (2, .int x2), (3, .int x3)]) hx hb dX4_setTests_57 hl (by decide) rfl (fun ls hl => ?_)
      refine lv_aload_n hx hb dX4_setTests_59 rfl (lv_at hl 1 rfl) ?_
      refine mg hx hb hw4 hown hK hP 31 (by decide) (v := .ref (b 22)) rfl (hts (.fieldLink RX4 88 "BackupPowerModel" "periods" "[I") (by decide +kernel)) dX4_setTests_60 ?_
      refine lv_iload_n hx hb dX4_setTests_63 rfl (lv_at hl 2 rfl) ?_
      refine lv_iload_n hx hb dX4_setTests_64 rfl (lv_at hl 3 rfl) ?_
      refine mstI hx hb hK ha hP hS 22 (by decide) hix dX4_setTests_65 (fun H locs hP hS => ?_)
      refine lv_aload_n hx hb dX4_setTests_66 rfl (lv_at hl 1 rfl) ?_
      refine mg hx hb hw4 hown hK hP 32 (by decide) (v := .ref (b 23)) rfl (hts (.fieldLink RX4 91 "BackupPowerModel" "lengths" "[I") (by decide +kernel)) dX4_setTests_67 ?_
      refine lv_iload_n hx hb dX4_setTests_70 rfl (lv_at hl 2 rfl) ?_
      refine lv_iload_n hx hb dX4_setTests_71 rfl (lv_at hl 4 rfl) ?_
      refine mstI hx hb hK ha hP hS 23 (by decide) hix dX4_setTests_72 (fun H locs hP hS => ?_)
      refine lv_iload hx hb dX4_setTests_73 (lv_at hl 0 rfl) ?_
      exact gRi (wf := MW G.2 b n) (S := (muA (muA (muS S39 0 s1_39) 22 x1.toNatClampNeg x2) 23 x1.toNatClampNeg x3)) hx hb hr hlocks hP hS h dX4_setTests_75
    · rewrite [if_neg c46] at h
      refine lv_iconst (v := 0) hx hb dX4_setTests_49 (by decide) ?_
      exact gRi (wf := MW G.2 b n) (S := (muS S39 0 s1_39)) hx hb hr hlocks hP hS h dX4_setTests_50
  have J38 : ∀ (S38 : MS), f_X4_setTests_b38 n x1 x2 x3 S38 = F → ∀ (H : Heap) (locs : List Loc) (ls : Array Slot), wM G b n S38 H → va_S (wA 27 b s.heap.size) s.heap H locs → lv_has ls 5 [(0, .ref (b 0)), (1, .int x1), (2, .int x2), (3, .int x3)] → W p l e ({ frames := 2, cells := 0, slots := 0, locals := 43 } : Room) s m ([.ref (b 0), .int x1, .int x2, .int x3] : List Value).toArray below meth c H locs 0 0 (gQi below G (MW G.2 b n) 27 b F ([.ref (b 0), .int x1, .int x2, .int x3] : List Value).toArray s) (F0 m 38 ls [.ref (b 0)]) := by
    intro S38 h H locs ls hP hS hl
    rewrite [f_X4_setTests_b38] at h
    refine lv_iconst (v := 2) hx hb dX4_setTests_38 (by decide) ?_
    exact J39 S38 2 (by first | (intro z; exact absurd z (by decide)) | (intro _; exact isGen_in hn ep3 c6)) h _ _ _ hP hS (lv_sub hl [0, 1, 2, 3] rfl)
  rewrite [f_X4_setTests] at h
  refine lv_aload_n hx hb dX4_setTests_0 rfl (lv_at hl 0 rfl) ?_
  refine lv_aload_n hx hb dX4_setTests_1 rfl (lv_at hl 0 rfl) ?_
  refine lv_iload_n hx hb dX4_setTests_2 rfl (lv_at hl 1 rfl) ?_
  refine gcVz (wf := MW G.2 b n) (N := 27) (ad := b) (As := [.int x1]) (rest := [.ref (b 0)]) (S := S) ⟨hx, hb, hml, hown, hts⟩ hK hP hS (c_X4_isGenerator l G b ha n hn x1 S _) (cwV 1 hts gX4_setTests_X4_isGenerator rfl rfl rfl (by decide +kernel) ⟨Nat.le_of_ble_eq_true rfl, Nat.le_of_ble_eq_true rfl⟩) (mrO hK hP) rfl hl.1 rfl (Nat.le_of_ble_eq_true rfl) dX4_setTests_3 ⟨Nat.le_of_ble_eq_true rfl, Nat.le_of_ble_eq_true rfl⟩ (fun p3 H locs ep3 hbp3 hP hS => ?_)
  rewrite [← ep3] at h
  rewrite [f_X4_setTests_c3] at h
  refine lv_if_ne (tgt := 13) hx hb dX4_setTests_6 (by decide) (fun c6 => ?_) (fun c6 => ?_)
  · rewrite [if_neg c6] at h
    refine lv_iload_n hx hb dX4_setTests_13 rfl (lv_at hl 2 rfl) ?_
    refine lv_iconst (v := 0) hx hb dX4_setTests_14 (by decide) ?_
    refine lv_sipush (v := 10000) hx hb dX4_setTests_15 (by decide) ?_
    refine gcSz (wf := MW G.2 b n) (N := 27) (ad := b) (As := [.int x2, .int 0, .int 10000]) (rest := [.ref (b 0)]) (S := p3.2) ⟨hx, hb, hml, hown, hts⟩ hK hP hS (c_X4_in l G b ha n hn x2 0 10000 p3.2 _) (va_cwS 3 hts gX4_setTests_X4_in rfl rfl rfl (by decide +kernel) ⟨Nat.le_of_ble_eq_true rfl, Nat.le_of_ble_eq_true rfl⟩) rfl hl.1 rfl (Nat.le_of_ble_eq_true rfl) dX4_setTests_18 ⟨Nat.le_of_ble_eq_true rfl, Nat.le_of_ble_eq_true rfl⟩ (fun p18 H locs ep18 hbp18 hP hS => ?_)
    rewrite [← ep18] at h
    rewrite [f_X4_setTests_c18] at h
    refine lv_if_eq (tgt := 38) hx hb dX4_setTests_21 (by decide) (fun c21 => ?_) (fun c21 => ?_)
    · rewrite [if_pos c21] at h
      exact J38 p18.2 h _ _ _ hP hS (lv_sub hl [0, 1, 2, 3] rfl)
    · rewrite [if_neg c21] at h
      refine lv_iload_n hx hb dX4_setTests_24 rfl (lv_at hl 3 rfl) ?_
      refine lv_iconst (v := 1) hx hb dX4_setTests_25 (by decide) ?_
      refine lv_bipush (v := 60) hx hb dX4_setTests_26 (by decide) ?_
      refine gcSz (wf := MW G.2 b n) (N := 27) (ad := b) (As := [.int x3, .int 1, .int 60]) (rest := [.ref (b 0)]) (S := p18.2) ⟨hx, hb, hml, hown, hts⟩ hK hP hS (c_X4_in l G b ha n hn x3 1 60 p18.2 _) (va_cwS 3 hts gX4_setTests_X4_in rfl rfl rfl (by decide +kernel) ⟨Nat.le_of_ble_eq_true rfl, Nat.le_of_ble_eq_true rfl⟩) rfl hl.1 rfl (Nat.le_of_ble_eq_true rfl) dX4_setTests_28 ⟨Nat.le_of_ble_eq_true rfl, Nat.le_of_ble_eq_true rfl⟩ (fun p28 H locs ep28 hbp28 hP hS => ?_)
      rewrite [← ep28] at h
      rewrite [f_X4_setTests_c28] at h
      refine lv_if_eq (tgt := 38) hx hb dX4_setTests_31 (by decide) (fun c31 => ?_) (fun c31 => ?_)
      · rewrite [if_pos c31] at h
        exact J38 p28.2 h _ _ _ hP hS (lv_sub hl [0, 1, 2, 3] rfl)
      · rewrite [if_neg c31] at h
        refine lv_iconst (v := 0) hx hb dX4_setTests_34 (by decide) ?_
        refine lv_goto (tgt := 39) hx hb dX4_setTests_35 (by decide) ?_
        exact J39 p28.2 0 (by first | (intro z; exact absurd z (by decide)) | (intro _; exact isGen_in hn ep3 c6)) h _ _ _ hP hS (lv_sub hl [0, 1, 2, 3] rfl)
  · rewrite [if_pos c6] at h
    refine lv_iconst (v := 1) hx hb dX4_setTests_9 (by decide) ?_
    refine lv_goto (tgt := 39) hx hb dX4_setTests_10 (by decide) ?_
    exact J39 p3.2 1 (by first | (intro z; exact absurd z (by decide)) | (intro _; exact isGen_in hn ep3 c6)) h _ _ _ hP hS (lv_sub hl [0, 1, 2, 3] rfl)

def f_X4_setTimes_b26 (n : Nat × Nat × Nat) (x1 : Int32) (x2 : Int32) (S26 : MS) (s1_26 : Int32) : Int32 × MS := (if ((muS S26 0 s1_26).1 0) ≤ 0 then ((muS S26 0 s1_26).1 4, (muS (muS (muS S26 0 s1_26) 4 x1) 5 x2)) else (0, (muS S26 0 s1_26)))
def f_X4_setTimes_b25 (n : Nat × Nat × Nat) (x1 : Int32) (x2 : Int32) (S25 : MS) : Int32 × MS := (f_X4_setTimes_b26 n x1 x2 S25 1)
def f_X4_setTimes_c15 (n : Nat × Nat × Nat) (x1 : Int32) (x2 : Int32) (p15 : Int32 × MS) : Int32 × MS := (if p15.1 = 0 then (f_X4_setTimes_b25 n x1 x2 p15.2) else (f_X4_setTimes_b26 n x1 x2 p15.2 0))
def f_X4_setTimes_c5 (n : Nat × Nat × Nat) (x1 : Int32) (x2 : Int32) (p5 : Int32 × MS) : Int32 × MS := (if p5.1 = 0 then (f_X4_setTimes_b25 n x1 x2 p5.2) else (f_X4_setTimes_c15 n x1 x2 (f_X4_in n x2 1 10 p5.2)))
def f_X4_setTimes (n : Nat × Nat × Nat) (x1 : Int32) (x2 : Int32) (S : MS) : Int32 × MS := (f_X4_setTimes_c5 n x1 x2 (f_X4_in n x1 0 30 S))
set_option maxHeartbeats 4000000 in
set_option maxRecDepth 100000 in
theorem c_X4_setTimes (l : Launch) (G : WG) (b : Nat → Nat) (ha : wInj 27 b) (n : Nat × Nat × Nat) (hn : n.1 ≤ 10 ∧ n.2.1 ≤ 3 ∧ n.2.2 ≤ 3) (x1 : Int32) (x2 : Int32) (S : MS) (sz : Nat) : gMi l yX4_setTimes wsX4_setTimes ({ frames := 1, cells := 0, slots := 0, locals := 22 }) G 27 b (MW G.2 b n) [.ref (b 0), .int x1, .int x2] S sz (f_X4_setTimes n x1 x2 S) := by
  unfold gMi
  refine Met.ofW (cc := cX4_setTimes) (maxL := 4) (ret := (some .int)) (by decide) rfl ?_
  intro p e s m args below meth c s₁ B hml hv
  obtain ⟨rfl, rfl, hP, hK⟩ := hv
  have hx := B.exec
  have hb := B.bytes
  have hr := B.returns
  have hts := atoms_spec (ws := wsX4_setTimes) B.pre
  have hown : s.vm.findClass RX4 = some m.cls := findClass_of_methodNamed B.named
  have hlocks := B.notSynchronized
  have hS : va_S (wA 27 b s.heap.size) s.heap s.heap [] := va_S.rf
  have hw4 : ∀ w ∈ wsX40, w.before ([.ref (b 0), .int x1, .int x2] : List Value).toArray s = true := fun w hw => hts w ((by decide +kernel : ∀ w ∈ wsX40, w ∈ wsX4_setTimes) w hw)
  have hl := lv_entry ([.ref (b 0), .int x1, .int x2]) (n := 4) (Nat.le_of_ble_eq_true rfl)
  rw [lg_entry_eq]
  generalize (lg_sl ([.ref (b 0), .int x1, .int x2] : List Value) ++ List.replicate (4 - (lg_sl ([.ref (b 0), .int x1, .int x2] : List Value)).length) Slot.unset).toArray = ls at hl ⊢
  have hl : lv_has ls 4 [(0, .ref (b 0)), (1, .int x1), (2, .int x2)] := hl
  generalize hF : f_X4_setTimes n x1 x2 S = F
  have h : f_X4_setTimes n x1 x2 S = F := hF
  clear hF
  show W p l e ({ frames := 1, cells := 0, slots := 0, locals := 22 } : Room) s m ([.ref (b 0), .int x1, .int x2] : List Value).toArray below meth c s.heap [] 0 0 (gQi below G (MW G.2 b n) 27 b F ([.ref (b 0), .int x1, .int x2] : List Value).toArray s) (F0 m 0 ls [])
  have J26 : ∀ (S26 : MS) (s1_26 : Int32), (isB s1_26) → f_X4_setTimes_b26 n x1 x2 S26 s1_26 = F → ∀ (H : Heap) (locs : List Loc) (ls : Array Slot), wM G b n S26 H → va_S (wA 27 b s.heap.size) s.heap H locs → lv_has ls 4 [(0, .ref (b 0)), (1, .int x1), (2, .int x2)] → W p l e ({ frames := 1, cells := 0, slots := 0, locals := 22 } : Room) s m ([.ref (b 0), .int x1, .int x2] : List Value).toArray below meth c H locs 0 0 (gQi below G (MW G.2 b n) 27 b F ([.ref (b 0), .int x1, .int x2] : List Value).toArray s) (F0 m 26 ls [.int s1_26, .ref (b 0)]) := by
    intro S26 s1_26 hbs1_26 h H locs ls hP hS hl
    rewrite [f_X4_setTimes_b26] at h
    refine mp hx hb hw4 hown hK ha hP hS 0 (by decide) rfl rfl okI (hts (.fieldLink RX4 103 "BackupPowerModel" "thrown" "I") (by decide +kernel)) dX4_setTimes_26 (fun H locs hP hS => ?_)
    refine lv_aload_n hx hb dX4_setTimes_29 rfl (lv_at hl 0 rfl) ?_
    refine mg hx hb hw4 hown hK hP 0 (by decide) (v := .int ((muS S26 0 s1_26).1 0)) rfl (hts (.fieldLink RX4 103 "BackupPowerModel" "thrown" "I") (by decide +kernel)) dX4_setTimes_30 ?_
    refine lv_if_le (tgt := 38) hx hb dX4_setTimes_33 (by decide) (fun c33 => ?_) (fun c33 => ?_)
    · rewrite [if_pos c33] at h
      refine lv_aload_n hx hb dX4_setTimes_38 rfl (lv_at hl 0 rfl) ?_
      refine mg hx hb hw4 hown hK hP 4 (by decide) (v := .int ((muS S26 0 s1_26).1 4)) rfl (hts (.fieldLink RX4 13 "BackupPowerModel" "startTime" "I") (by decide +kernel)) dX4_setTimes_39 ?_
      refine lv_istore_n (lv' := [(3, .int ((muS S26 0 s1_26).1 4)), (0, .ref (b 0)), (1, .int x1), (2, .int x2)]) hx hb dX4_setTimes_42 rfl hl (by decide) rfl (fun ls hl => ?_)
      refine lv_aload_n hx hb dX4_setTimes_43 rfl (lv_at hl 1 rfl) ?_
      refine lv_iload_n hx hb dX4_setTimes_44 rfl (lv_at hl 2 rfl) ?_
      refine mp hx hb hw4 hown hK ha hP hS 4 (by decide) rfl rfl okI (hts (.fieldLink RX4 13 "BackupPowerModel" "startTime" "I") (by decide +kernel)) dX4_setTimes_45 (fun H locs hP hS => ?_)
      refine lv_aload_n hx hb dX4_setTimes_48 rfl (lv_at hl 1 rfl) ?_
      refine lv_iload_n hx hb dX4_setTimes_49 rfl (lv_at hl 3 rfl) ?_
      refine mp hx hb hw4 hown hK ha hP hS 5 (by decide) rfl rfl okI (hts (.fieldLink RX4 17 "BackupPowerModel" "stagger" "I") (by decide +kernel)) dX4_setTimes_50 (fun H locs hP hS => ?_)
      refine lv_iload_n hx hb dX4_setTimes_53 rfl (lv_at hl 0 rfl) ?_
      exact gRi (wf := MW G.2 b n) (S := (muS (muS (muS S26 0 s1_26) 4 x1) 5 x2)) hx hb hr hlocks hP hS h dX4_setTimes_54
    · rewrite [if_neg c33] at h
      refine lv_iconst (v := 0) hx hb dX4_setTimes_36 (by decide) ?_
      exact gRi (wf := MW G.2 b n) (S := (muS S26 0 s1_26)) hx hb hr hlocks hP hS h dX4_setTimes_37
  have J25 : ∀ (S25 : MS), f_X4_setTimes_b25 n x1 x2 S25 = F → ∀ (H : Heap) (locs : List Loc) (ls : Array Slot), wM G b n S25 H → va_S (wA 27 b s.heap.size) s.heap H locs → lv_has ls 4 [(0, .ref (b 0)), (1, .int x1), (2, .int x2)] → W p l e ({ frames := 1, cells := 0, slots := 0, locals := 22 } : Room) s m ([.ref (b 0), .int x1, .int x2] : List Value).toArray below meth c H locs 0 0 (gQi below G (MW G.2 b n) 27 b F ([.ref (b 0), .int x1, .int x2] : List Value).toArray s) (F0 m 25 ls [.ref (b 0)]) := by
    intro S25 h H locs ls hP hS hl
    rewrite [f_X4_setTimes_b25] at h
    refine lv_iconst (v := 1) hx hb dX4_setTimes_25 (by decide) ?_
    exact J26 S25 1 isB_1 h _ _ _ hP hS (lv_sub hl [0, 1, 2] rfl)
  rewrite [f_X4_setTimes] at h
  refine lv_aload_n hx hb dX4_setTimes_0 rfl (lv_at hl 0 rfl) ?_
  refine lv_iload_n hx hb dX4_setTimes_1 rfl (lv_at hl 1 rfl) ?_
  refine lv_iconst (v := 0) hx hb dX4_setTimes_2 (by decide) ?_
  refine lv_bipush (v := 30) hx hb dX4_setTimes_3 (by decide) ?_
  refine gcSz (wf := MW G.2 b n) (N := 27) (ad := b) (As := [.int x1, .int 0, .int 30]) (rest := [.ref (b 0)]) (S := S) ⟨hx, hb, hml, hown, hts⟩ hK hP hS (c_X4_in l G b ha n hn x1 0 30 S _) (va_cwS 3 hts gX4_setTimes_X4_in rfl rfl rfl (by decide +kernel) ⟨Nat.le_of_ble_eq_true rfl, Nat.le_of_ble_eq_true rfl⟩) rfl hl.1 rfl (Nat.le_of_ble_eq_true rfl) dX4_setTimes_5 ⟨Nat.le_of_ble_eq_true rfl, Nat.le_of_ble_eq_true rfl⟩ (fun p5 H locs ep5 hbp5 hP hS => ?_)
  rewrite [← ep5] at h
  rewrite [f_X4_setTimes_c5] at h
  refine lv_if_eq (tgt := 25) hx hb dX4_setTimes_8 (by decide) (fun c8 => ?_) (fun c8 => ?_)
  · rewrite [if_pos c8] at h
    exact J25 p5.2 h _ _ _ hP hS (lv_sub hl [0, 1, 2] rfl)
  · rewrite [if_neg c8] at h
    refine lv_iload_n hx hb dX4_setTimes_11 rfl (lv_at hl 2 rfl) ?_
    refine lv_iconst (v := 1) hx hb dX4_setTimes_12 (by decide) ?_
    refine lv_bipush (v := 10) hx hb dX4_setTimes_13 (by decide) ?_
    refine gcSz (wf := MW G.2 b n) (N := 27) (ad := b) (As := [.int x2, .int 1, .int 10]) (rest := [.ref (b 0)]) (S := p5.2) ⟨hx, hb, hml, hown, hts⟩ hK hP hS (c_X4_in l G b ha n hn x2 1 10 p5.2 _) (va_cwS 3 hts gX4_setTimes_X4_in rfl rfl rfl (by decide +kernel) ⟨Nat.le_of_ble_eq_true rfl, Nat.le_of_ble_eq_true rfl⟩) rfl hl.1 rfl (Nat.le_of_ble_eq_true rfl) dX4_setTimes_15 ⟨Nat.le_of_ble_eq_true rfl, Nat.le_of_ble_eq_true rfl⟩ (fun p15 H locs ep15 hbp15 hP hS => ?_)
    rewrite [← ep15] at h
    rewrite [f_X4_setTimes_c15] at h
    refine lv_if_eq (tgt := 25) hx hb dX4_setTimes_18 (by decide) (fun c18 => ?_) (fun c18 => ?_)
    · rewrite [if_pos c18] at h
      exact J25 p15.2 h _ _ _ hP hS (lv_sub hl [0, 1, 2] rfl)
    · rewrite [if_neg c18] at h
      refine lv_iconst (v := 0) hx hb dX4_setTimes_21 (by decide) ?_
      refine lv_goto (tgt := 26) hx hb dX4_setTimes_22 (by decide) ?_
      exact J26 p15.2 0 isB_0 h _ _ _ hP hS (lv_sub hl [0, 1, 2] rfl)

def f_X4_setMains (n : Nat × Nat × Nat) (x1 : Int32) (S : MS) : Int32 × MS := ((muS S 0 0).1 2, (muS (muS S 0 0) 2 x1))
set_option maxHeartbeats 4000000 in
set_option maxRecDepth 100000 in
theorem c_X4_setMains (l : Launch) (G : WG) (b : Nat → Nat) (ha : wInj 27 b) (n : Nat × Nat × Nat) (hn : n.1 ≤ 10 ∧ n.2.1 ≤ 3 ∧ n.2.2 ≤ 3) (x1 : Int32) (hbx1 : isB x1) (S : MS) (hB2 : isB (S.1 2)) (sz : Nat) : gMz l yX4_setMains wsX4_setMains ({ frames := 0, cells := 0, slots := 0, locals := 0 }) G 27 b (MW G.2 b n) [.ref (b 0), .int x1] S sz (f_X4_setMains n x1 S) := by
  unfold gMz
  refine Met.ofW (cc := cX4_setMains) (maxL := 3) (ret := (some .boolean)) (by decide) rfl ?_
  intro p e s m args below meth c s₁ B hml hv
  obtain ⟨rfl, rfl, hP, hK⟩ := hv
  have hx := B.exec
  have hb := B.bytes
  have hr := B.returns
  have hts := atoms_spec (ws := wsX4_setMains) B.pre
  have hown : s.vm.findClass RX4 = some m.cls := findClass_of_methodNamed B.named
  have hlocks := B.notSynchronized
  have hS : va_S (wA 27 b s.heap.size) s.heap s.heap [] := va_S.rf
  have hw4 : ∀ w ∈ wsX40, w.before ([.ref (b 0), .int x1] : List Value).toArray s = true := fun w hw => hts w ((by decide +kernel : ∀ w ∈ wsX40, w ∈ wsX4_setMains) w hw)
  have hl := lv_entry ([.ref (b 0), .int x1]) (n := 3) (Nat.le_of_ble_eq_true rfl)
  rw [lg_entry_eq]
  generalize (lg_sl ([.ref (b 0), .int x1] : List Value) ++ List.replicate (3 - (lg_sl ([.ref (b 0), .int x1] : List Value)).length) Slot.unset).toArray = ls at hl ⊢
  have hl : lv_has ls 3 [(0, .ref (b 0)), (1, .int x1)] := hl
  generalize hF : f_X4_setMains n x1 S = F
  have h : f_X4_setMains n x1 S = F := hF
  clear hF
  show W p l e ({ frames := 0, cells := 0, slots := 0, locals := 0 } : Room) s m ([.ref (b 0), .int x1] : List Value).toArray below meth c s.heap [] 0 0 (gQz below G (MW G.2 b n) 27 b F ([.ref (b 0), .int x1] : List Value).toArray s) (F0 m 0 ls [])
  rewrite [f_X4_setMains] at h
  refine lv_aload_n hx hb dX4_setMains_0 rfl (lv_at hl 0 rfl) ?_
  refine lv_iconst (v := 0) hx hb dX4_setMains_1 (by decide) ?_
  refine mp hx hb hw4 hown hK ha hP hS 0 (by decide) rfl rfl okI (hts (.fieldLink RX4 103 "BackupPowerModel" "thrown" "I") (by decide +kernel)) dX4_setMains_2 (fun H locs hP hS => ?_)
  refine lv_aload_n hx hb dX4_setMains_5 rfl (lv_at hl 0 rfl) ?_
  refine mg hx hb hw4 hown hK hP 2 (by decide) (v := .int ((muS S 0 0).1 2)) rfl (hts (.fieldLink RX4 7 "BackupPowerModel" "areUp" "Z") (by decide +kernel)) dX4_setMains_6 ?_
  refine lv_istore_n (lv' := [(2, .int ((muS S 0 0).1 2)), (0, .ref (b 0)), (1, .int x1)]) hx hb dX4_setMains_9 rfl hl (by decide) rfl (fun ls hl => ?_)
  refine lv_aload_n hx hb dX4_setMains_10 rfl (lv_at hl 1 rfl) ?_
  refine lv_iload_n hx hb dX4_setMains_11 rfl (lv_at hl 2 rfl) ?_
  refine mp hx hb hw4 hown hK ha hP hS 2 (by decide) rfl rfl (okB hbx1) (hts (.fieldLink RX4 7 "BackupPowerModel" "areUp" "Z") (by decide +kernel)) dX4_setMains_12 (fun H locs hP hS => ?_)
  refine lv_iload_n hx hb dX4_setMains_15 rfl (lv_at hl 0 rfl) ?_
  exact gRz (wf := MW G.2 b n) (S := (muS (muS S 0 0) 2 x1)) hx hb hr hlocks hB2 hP hS h dX4_setMains_16

def f_X4_beginsToStart_b103 (n : Nat × Nat × Nat) (x1 : Nat) (S103 : MS) : MS := S103
def f_X4_beginsToStart_b77 (n : Nat × Nat × Nat) (x1 : Nat) (S77 : MS) (v3_77 : Int32) : MS := (f_X4_beginsToStart_b103 n x1 (muA (muA (muA S77 16 x1 1) 17 x1 v3_77) 18 x1 ((muA (muA S77 16 x1 1) 17 x1 v3_77).2 13 x1)))
def f_X4_beginsToStart_b59 (n : Nat × Nat × Nat) (x1 : Nat) (S59 : MS) (v2_59 : Int32) (s0_59 : Int32) : MS := (if (S59.2 15 x1) ≤ 0 then (f_X4_beginsToStart_b103 n x1 S59) else (if v2_59 = 0 then (if s0_59 = 0 then (f_X4_beginsToStart_b103 n x1 S59) else (f_X4_beginsToStart_b77 n x1 S59 s0_59)) else (f_X4_beginsToStart_b77 n x1 S59 s0_59)))
def f_X4_beginsToStart_b58 (n : Nat × Nat × Nat) (x1 : Nat) (S58 : MS) (v2_58 : Int32) : MS := (f_X4_beginsToStart_b59 n x1 S58 v2_58 0)
def f_X4_beginsToStart_b23 (n : Nat × Nat × Nat) (x1 : Nat) (S23 : MS) (s0_23 : Int32) : MS := (if (S23.1 2) = 0 then (f_X4_beginsToStart_b58 n x1 S23 s0_23) else (if (S23.2 22 x1) ≤ 0 then (f_X4_beginsToStart_b58 n x1 S23 s0_23) else (if ((S23.1 1) - ((S23.1 1) / (S23.2 22 x1)) * (S23.2 22 x1)) = 0 then (f_X4_beginsToStart_b59 n x1 S23 s0_23 1) else (f_X4_beginsToStart_b58 n x1 S23 s0_23))))
def f_X4_beginsToStart_b22 (n : Nat × Nat × Nat) (x1 : Nat) (S22 : MS) : MS := (f_X4_beginsToStart_b23 n x1 S22 0)
def f_X4_beginsToStart (n : Nat × Nat × Nat) (x1 : Nat) (S : MS) : MS := (if (S.1 2) = 0 then (if (S.1 3) < (S.1 4) then (f_X4_beginsToStart_b22 n x1 S) else (f_X4_beginsToStart_b23 n x1 S 1)) else (f_X4_beginsToStart_b22 n x1 S))
set_option maxHeartbeats 4000000 in
set_option maxRecDepth 100000 in
theorem c_X4_beginsToStart (l : Launch) (G : WG) (b : Nat → Nat) (ha : wInj 27 b) (n : Nat × Nat × Nat) (hn : n.1 ≤ 10 ∧ n.2.1 ≤ 3 ∧ n.2.2 ≤ 3) (x1 : Nat) (hx1 : x1 < 3) (S : MS) (sz : Nat) : gMv l yX4_beginsToStart wsX4_beginsToStart ({ frames := 0, cells := 0, slots := 0, locals := 0 }) G 27 b (MW G.2 b n) [.ref (b 0), .int (nI x1)] S sz (f_X4_beginsToStart n x1 S) := by
  unfold gMv
  refine Met.ofW (cc := cX4_beginsToStart) (maxL := 4) (ret := none) (by decide) rfl ?_
  intro p e s m args below meth c s₁ B hml hv
  obtain ⟨rfl, rfl, hP, hK⟩ := hv
  have hx := B.exec
  have hb := B.bytes
  have hr := B.returns
  have hts := atoms_spec (ws := wsX4_beginsToStart) B.pre
  have hown : s.vm.findClass RX4 = some m.cls := findClass_of_methodNamed B.named
  have hlocks := B.notSynchronized
  have hS : va_S (wA 27 b s.heap.size) s.heap s.heap [] := va_S.rf
  have hw4 : ∀ w ∈ wsX40, w.before ([.ref (b 0), .int (nI x1)] : List Value).toArray s = true := fun w hw => hts w ((by decide +kernel : ∀ w ∈ wsX40, w ∈ wsX4_beginsToStart) w hw)
  have hl := lv_entry ([.ref (b 0), .int (nI x1)]) (n := 4) (Nat.le_of_ble_eq_true rfl)
  rw [lg_entry_eq]
  generalize (lg_sl ([.ref (b 0), .int (nI x1)] : List Value) ++ List.replicate (4 - (lg_sl ([.ref (b 0), .int (nI x1)] : List Value)).length) Slot.unset).toArray = ls at hl ⊢
  have hl : lv_has ls 4 [(0, .ref (b 0)), (1, .int (nI x1))] := hl
  generalize hF : f_X4_beginsToStart n x1 S = F
  have h : f_X4_beginsToStart n x1 S = F := hF
  clear hF
  show W p l e ({ frames := 0, cells := 0, slots := 0, locals := 0 } : Room) s m ([.ref (b 0), .int (nI x1)] : List Value).toArray below meth c s.heap [] 0 0 (gQv below G (MW G.2 b n) 27 b F ([.ref (b 0), .int (nI x1)] : List Value).toArray s) (F0 m 0 ls [])
  have J23 : ∀ (S23 : MS) (s0_23 : Int32), (isB s0_23) → f_X4_beginsToStart_b23 n x1 S23 s0_23 = F → ∀ (H : Heap) (locs : List Loc) (ls : Array Slot), wM G b n S23 H → va_S (wA 27 b s.heap.size) s.heap H locs → lv_has ls 4 [(0, .ref (b 0)), (1, .int (nI x1))] → W p l e ({ frames := 0, cells := 0, slots := 0, locals := 0 } : Room) s m ([.ref (b 0), .int (nI x1)] : List Value).toArray below meth c H locs 0 0 (gQv below G (MW G.2 b n) 27 b F ([.ref (b 0), .int (nI x1)] : List Value).toArray s) (F0 m 23 ls [.int s0_23]) := by
    intro S23 s0_23 hbs0_23 h H locs ls hP hS hl
    have J59 : ∀ (S59 : MS) (v2_59 : Int32) (s0_59 : Int32), (isB v2_59) → (isB s0_59) → f_X4_beginsToStart_b59 n x1 S59 v2_59 s0_59 = F → ∀ (H : Heap) (locs : List Loc) (ls : Array Slot), wM G b n S59 H → va_S (wA 27 b s.heap.size) s.heap H locs → lv_has ls 4 [(0, .ref (b 0)), (1, .int (nI x1)), (2, .int v2_59)] → W p l e ({ frames := 0, cells := 0, slots := 0, locals := 0 } : Room) s m ([.ref (b 0), .int (nI x1)] : List Value).toArray below meth c H locs 0 0 (gQv below G (MW G.2 b n) 27 b F ([.ref (b 0), .int (nI x1)] : List Value).toArray s) (F0 m 59 ls [.int s0_59]) := by
      intro S59 v2_59 s0_59 hbv2_59 hbs0_59 h H locs ls hP hS hl
      have J103 : ∀ (S103 : MS), f_X4_beginsToStart_b103 n x1 S103 = F → ∀ (H : Heap) (locs : List Loc) (ls : Array Slot), wM G b n S103 H → va_S (wA 27 b s.heap.size) s.heap H locs → lv_has ls 4 [] → W p l e ({ frames := 0, cells := 0, slots := 0, locals := 0 } : Room) s m ([.ref (b 0), .int (nI x1)] : List Value).toArray below meth c H locs 0 0 (gQv below G (MW G.2 b n) 27 b F ([.ref (b 0), .int (nI x1)] : List Value).toArray s) (F0 m 103 ls []) := by
        intro S103 h H locs ls hP hS hl
        rewrite [f_X4_beginsToStart_b103] at h
        exact gRv (wf := MW G.2 b n) (S := S103) hx hb hr hlocks hP hS h dX4_beginsToStart_103
      have J77 : ∀ (S77 : MS) (v3_77 : Int32), (isB v3_77) → f_X4_beginsToStart_b77 n x1 S77 v3_77 = F → ∀ (H : Heap) (locs : List Loc) (ls : Array Slot), wM G b n S77 H → va_S (wA 27 b s.heap.size) s.heap H locs → lv_has ls 4 [(0, .ref (b 0)), (1, .int (nI x1)), (3, .int v3_77)] → W p l e ({ frames := 0, cells := 0, slots := 0, locals := 0 } : Room) s m ([.ref (b 0), .int (nI x1)] : List Value).toArray below meth c H locs 0 0 (gQv below G (MW G.2 b n) 27 b F ([.ref (b 0), .int (nI x1)] : List Value).toArray s) (F0 m 77 ls []) := by
        intro S77 v3_77 hbv3_77 h H locs ls hP hS hl
        rewrite [f_X4_beginsToStart_b77] at h
        refine lv_aload_n hx hb dX4_beginsToStart_77 rfl (lv_at hl 0 rfl) ?_
        refine mg hx hb hw4 hown hK hP 25 (by decide) (v := .ref (b 16)) rfl (hts (.fieldLink RX4 69 "BackupPowerModel" "modes" "[I") (by decide +kernel)) dX4_beginsToStart_78 ?_
        refine lv_iload_n hx hb dX4_beginsToStart_81 rfl (lv_at hl 1 rfl) ?_
        refine lv_iconst (v := 1) hx hb dX4_beginsToStart_82 (by decide) ?_
        refine mst hx hb hK ha hP hS 16 (by decide) (show x1 < 3 by omega) dX4_beginsToStart_83 (fun H locs hP hS => ?_)
        refine lv_aload_n hx hb dX4_beginsToStart_84 rfl (lv_at hl 0 rfl) ?_
        refine mg hx hb hw4 hown hK hP 26 (by decide) (v := .ref (b 17)) rfl (hts (.fieldLink RX4 72 "BackupPowerModel" "isTest" "[Z") (by decide +kernel)) dX4_beginsToStart_85 ?_
        refine lv_iload_n hx hb dX4_beginsToStart_88 rfl (lv_at hl 1 rfl) ?_
        refine lv_iload_n hx hb dX4_beginsToStart_89 rfl (lv_at hl 2 rfl) ?_
        refine mzst hx hb hK ha hP hS hbv3_77 (show x1 < 3 by omega) dX4_beginsToStart_90 (fun H locs hP hS => ?_)
        refine lv_aload_n hx hb dX4_beginsToStart_91 rfl (lv_at hl 0 rfl) ?_
        refine mg hx hb hw4 hown hK hP 27 (by decide) (v := .ref (b 18)) rfl (hts (.fieldLink RX4 76 "BackupPowerModel" "toGo" "[I") (by decide +kernel)) dX4_beginsToStart_92 ?_
        refine lv_iload_n hx hb dX4_beginsToStart_95 rfl (lv_at hl 1 rfl) ?_
        refine lv_aload_n hx hb dX4_beginsToStart_96 rfl (lv_at hl 0 rfl) ?_
        refine mg hx hb hw4 hown hK hP 22 (by decide) (v := .ref (b 13)) rfl (hts (.fieldLink RX4 60 "BackupPowerModel" "delays" "[I") (by decide +kernel)) dX4_beginsToStart_97 ?_
        refine lv_iload_n hx hb dX4_beginsToStart_100 rfl (lv_at hl 1 rfl) ?_
        refine mld hx hb hK hP 13 (by decide) (show x1 < 3 by omega) dX4_beginsToStart_101 ?_
        refine mst hx hb hK ha hP hS 18 (by decide) (show x1 < 3 by omega) dX4_beginsToStart_102 (fun H locs hP hS => ?_)
        exact J103 (muA (muA (muA S77 16 x1 1) 17 x1 v3_77) 18 x1 ((muA (muA S77 16 x1 1) 17 x1 v3_77).2 13 x1)) h _ _ _ hP hS (lv_sub hl [] rfl)
      rewrite [f_X4_beginsToStart_b59] at h
      refine lv_istore_n (lv' := [(3, .int s0_59), (0, .ref (b 0)), (1, .int (nI x1)), (2, .int v2_59)]) hx hb dX4_beginsToStart_59 rfl hl (by decide) rfl (fun ls hl => ?_)
      refine lv_aload_n hx hb dX4_beginsToStart_60 rfl (lv_at hl 1 rfl) ?_
      refine mg hx hb hw4 hown hK hP 24 (by decide) (v := .ref (b 15)) rfl (hts (.fieldLink RX4 66 "BackupPowerModel" "fuels" "[I") (by decide +kernel)) dX4_beginsToStart_61 ?_
      refine lv_iload_n hx hb dX4_beginsToStart_64 rfl (lv_at hl 2 rfl) ?_
      refine mld hx hb hK hP 15 (by decide) (show x1 < 3 by omega) dX4_beginsToStart_65 ?_
      refine lv_if_le (tgt := 103) hx hb dX4_beginsToStart_66 (by decide) (fun c66 => ?_) (fun c66 => ?_)
      · rewrite [if_pos c66] at h
        exact J103 S59 h _ _ _ hP hS (lv_sub hl [] rfl)
      · rewrite [if_neg c66] at h
        refine lv_iload_n hx hb dX4_beginsToStart_69 rfl (lv_at hl 3 rfl) ?_
        refine lv_if_ne (tgt := 77) hx hb dX4_beginsToStart_70 (by decide) (fun c70 => ?_) (fun c70 => ?_)
        · rewrite [if_neg c70] at h
          exact J77 S59 s0_59 hbs0_59 h _ _ _ hP hS (lv_sub hl [1, 2, 0] rfl)
        · rewrite [if_pos c70] at h
          refine lv_iload_n hx hb dX4_beginsToStart_73 rfl (lv_at hl 0 rfl) ?_
          refine lv_if_eq (tgt := 103) hx hb dX4_beginsToStart_74 (by decide) (fun c74 => ?_) (fun c74 => ?_)
          · rewrite [if_pos c74] at h
            exact J103 S59 h _ _ _ hP hS (lv_sub hl [] rfl)
          · rewrite [if_neg c74] at h
            exact J77 S59 s0_59 hbs0_59 h _ _ _ hP hS (lv_sub hl [1, 2, 0] rfl)
    have J58 : ∀ (S58 : MS) (v2_58 : Int32), (isB v2_58) → f_X4_beginsToStart_b58 n x1 S58 v2_58 = F → ∀ (H : Heap) (locs : List Loc) (ls : Array Slot), wM G b n S58 H → va_S (wA 27 b s.heap.size) s.heap H locs → lv_has ls 4 [(0, .ref (b 0)), (1, .int (nI x1)), (2, .int v2_58)] → W p l e ({ frames := 0, cells := 0, slots := 0, locals := 0 } : Room) s m ([.ref (b 0), .int (nI x1)] : List Value).toArray below meth c H locs 0 0 (gQv below G (MW G.2 b n) 27 b F ([.ref (b 0), .int (nI x1)] : List Value).toArray s) (F0 m 58 ls []) := by
      intro S58 v2_58 hbv2_58 h H locs ls hP hS hl
      rewrite [f_X4_beginsToStart_b58] at h
      refine lv_iconst (v := 0) hx hb dX4_beginsToStart_58 (by decide) ?_
      exact J59 S58 v2_58 0 hbv2_58 isB_0 h _ _ _ hP hS (lv_sub hl [0, 1, 2] rfl)
    rewrite [f_X4_beginsToStart_b23] at h
    refine lv_istore_n (lv' := [(2, .int s0_23), (0, .ref (b 0)), (1, .int (nI x1))]) hx hb dX4_beginsToStart_23 rfl hl (by decide) rfl (fun ls hl => ?_)
    refine lv_aload_n hx hb dX4_beginsToStart_24 rfl (lv_at hl 1 rfl) ?_
    refine mg hx hb hw4 hown hK hP 2 (by decide) (v := .int (S23.1 2)) rfl (hts (.fieldLink RX4 7 "BackupPowerModel" "areUp" "Z") (by decide +kernel)) dX4_beginsToStart_25 ?_
    refine lv_if_eq (tgt := 58) hx hb dX4_beginsToStart_28 (by decide) (fun c28 => ?_) (fun c28 => ?_)
    · rewrite [if_pos c28] at h
      exact J58 S23 s0_23 hbs0_23 h _ _ _ hP hS (lv_sub hl [1, 2, 0] rfl)
    · rewrite [if_neg c28] at h
      refine lv_aload_n hx hb dX4_beginsToStart_31 rfl (lv_at hl 1 rfl) ?_
      refine mg hx hb hw4 hown hK hP 31 (by decide) (v := .ref (b 22)) rfl (hts (.fieldLink RX4 88 "BackupPowerModel" "periods" "[I") (by decide +kernel)) dX4_beginsToStart_32 ?_
      refine lv_iload_n hx hb dX4_beginsToStart_35 rfl (lv_at hl 2 rfl) ?_
      refine mld hx hb hK hP 22 (by decide) (show x1 < 3 by omega) dX4_beginsToStart_36 ?_
      refine lv_if_le (tgt := 58) hx hb dX4_beginsToStart_37 (by decide) (fun c37 => ?_) (fun c37 => ?_)
      · rewrite [if_pos c37] at h
        exact J58 S23 s0_23 hbs0_23 h _ _ _ hP hS (lv_sub hl [1, 2, 0] rfl)
      · rewrite [if_neg c37] at h
        refine lv_aload_n hx hb dX4_beginsToStart_40 rfl (lv_at hl 1 rfl) ?_
        refine mg hx hb hw4 hown hK hP 1 (by decide) (v := .int (S23.1 1)) rfl (hts (.fieldLink RX4 133 "BackupPowerModel" "now" "I") (by decide +kernel)) dX4_beginsToStart_41 ?_
        refine lv_aload_n hx hb dX4_beginsToStart_44 rfl (lv_at hl 1 rfl) ?_
        refine mg hx hb hw4 hown hK hP 31 (by decide) (v := .ref (b 22)) rfl (hts (.fieldLink RX4 88 "BackupPowerModel" "periods" "[I") (by decide +kernel)) dX4_beginsToStart_45 ?_
        refine lv_iload_n hx hb dX4_beginsToStart_48 rfl (lv_at hl 2 rfl) ?_
        refine mld hx hb hK hP 22 (by decide) (show x1 < 3 by omega) dX4_beginsToStart_49 ?_
        refine lv_irem hx hb dX4_beginsToStart_50 (fun z => c37 (by rw [z]; decide)) ?_
        refine lv_if_ne (tgt := 58) hx hb dX4_beginsToStart_51 (by decide) (fun c51 => ?_) (fun c51 => ?_)
        · rewrite [if_neg c51] at h
          exact J58 S23 s0_23 hbs0_23 h _ _ _ hP hS (lv_sub hl [1, 2, 0] rfl)
        · rewrite [if_pos c51] at h
          refine lv_iconst (v := 1) hx hb dX4_beginsToStart_54 (by decide) ?_
          refine lv_goto (tgt := 59) hx hb dX4_beginsToStart_55 (by decide) ?_
          exact J59 S23 s0_23 1 hbs0_23 isB_1 h _ _ _ hP hS (lv_sub hl [1, 2, 0] rfl)
  have J22 : ∀ (S22 : MS), f_X4_beginsToStart_b22 n x1 S22 = F → ∀ (H : Heap) (locs : List Loc) (ls : Array Slot), wM G b n S22 H → va_S (wA 27 b s.heap.size) s.heap H locs → lv_has ls 4 [(0, .ref (b 0)), (1, .int (nI x1))] → W p l e ({ frames := 0, cells := 0, slots := 0, locals := 0 } : Room) s m ([.ref (b 0), .int (nI x1)] : List Value).toArray below meth c H locs 0 0 (gQv below G (MW G.2 b n) 27 b F ([.ref (b 0), .int (nI x1)] : List Value).toArray s) (F0 m 22 ls []) := by
    intro S22 h H locs ls hP hS hl
    rewrite [f_X4_beginsToStart_b22] at h
    refine lv_iconst (v := 0) hx hb dX4_beginsToStart_22 (by decide) ?_
    exact J23 S22 0 isB_0 h _ _ _ hP hS (lv_sub hl [0, 1] rfl)
  rewrite [f_X4_beginsToStart] at h
  refine lv_aload_n hx hb dX4_beginsToStart_0 rfl (lv_at hl 0 rfl) ?_
  refine mg hx hb hw4 hown hK hP 2 (by decide) (v := .int (S.1 2)) rfl (hts (.fieldLink RX4 7 "BackupPowerModel" "areUp" "Z") (by decide +kernel)) dX4_beginsToStart_1 ?_
  refine lv_if_ne (tgt := 22) hx hb dX4_beginsToStart_4 (by decide) (fun c4 => ?_) (fun c4 => ?_)
  · rewrite [if_neg c4] at h
    exact J22 S h _ _ _ hP hS (lv_sub hl [0, 1] rfl)
  · rewrite [if_pos c4] at h
    refine lv_aload_n hx hb dX4_beginsToStart_7 rfl (lv_at hl 0 rfl) ?_
    refine mg hx hb hw4 hown hK hP 3 (by decide) (v := .int (S.1 3)) rfl (hts (.fieldLink RX4 130 "BackupPowerModel" "away" "I") (by decide +kernel)) dX4_beginsToStart_8 ?_
    refine lv_aload_n hx hb dX4_beginsToStart_11 rfl (lv_at hl 0 rfl) ?_
    refine mg hx hb hw4 hown hK hP 4 (by decide) (v := .int (S.1 4)) rfl (hts (.fieldLink RX4 13 "BackupPowerModel" "startTime" "I") (by decide +kernel)) dX4_beginsToStart_12 ?_
    refine lv_icmp_lt (tgt := 22) hx hb dX4_beginsToStart_15 (by decide) (fun c15 => ?_) (fun c15 => ?_)
    · rewrite [if_pos c15] at h
      exact J22 S h _ _ _ hP hS (lv_sub hl [0, 1] rfl)
    · rewrite [if_neg c15] at h
      refine lv_iconst (v := 1) hx hb dX4_beginsToStart_18 (by decide) ?_
      refine lv_goto (tgt := 23) hx hb dX4_beginsToStart_19 (by decide) ?_
      exact J23 S 1 isB_1 h _ _ _ hP hS (lv_sub hl [0, 1] rfl)

def f_X4_stops (n : Nat × Nat × Nat) (x1 : Nat) (S : MS) : MS := (muA (muA S 16 x1 0) 17 x1 0)
set_option maxHeartbeats 4000000 in
set_option maxRecDepth 100000 in
theorem c_X4_stops (l : Launch) (G : WG) (b : Nat → Nat) (ha : wInj 27 b) (n : Nat × Nat × Nat) (hn : n.1 ≤ 10 ∧ n.2.1 ≤ 3 ∧ n.2.2 ≤ 3) (x1 : Nat) (hx1 : x1 < 3) (S : MS) (sz : Nat) : gMv l yX4_stops wsX4_stops ({ frames := 0, cells := 0, slots := 0, locals := 0 }) G 27 b (MW G.2 b n) [.ref (b 0), .int (nI x1)] S sz (f_X4_stops n x1 S) := by
  unfold gMv
  refine Met.ofW (cc := cX4_stops) (maxL := 2) (ret := none) (by decide) rfl ?_
  intro p e s m args below meth c s₁ B hml hv
  obtain ⟨rfl, rfl, hP, hK⟩ := hv
  have hx := B.exec
  have hb := B.bytes
  have hr := B.returns
  have hts := atoms_spec (ws := wsX4_stops) B.pre
  have hown : s.vm.findClass RX4 = some m.cls := findClass_of_methodNamed B.named
  have hlocks := B.notSynchronized
  have hS : va_S (wA 27 b s.heap.size) s.heap s.heap [] := va_S.rf
  have hw4 : ∀ w ∈ wsX40, w.before ([.ref (b 0), .int (nI x1)] : List Value).toArray s = true := fun w hw => hts w ((by decide +kernel : ∀ w ∈ wsX40, w ∈ wsX4_stops) w hw)
  have hl := lv_entry ([.ref (b 0), .int (nI x1)]) (n := 2) (Nat.le_of_ble_eq_true rfl)
  rw [lg_entry_eq]
  generalize (lg_sl ([.ref (b 0), .int (nI x1)] : List Value) ++ List.replicate (2 - (lg_sl ([.ref (b 0), .int (nI x1)] : List Value)).length) Slot.unset).toArray = ls at hl ⊢
  have hl : lv_has ls 2 [(0, .ref (b 0)), (1, .int (nI x1))] := hl
  generalize hF : f_X4_stops n x1 S = F
  have h : f_X4_stops n x1 S = F := hF
  clear hF
  show W p l e ({ frames := 0, cells := 0, slots := 0, locals := 0 } : Room) s m ([.ref (b 0), .int (nI x1)] : List Value).toArray below meth c s.heap [] 0 0 (gQv below G (MW G.2 b n) 27 b F ([.ref (b 0), .int (nI x1)] : List Value).toArray s) (F0 m 0 ls [])
  rewrite [f_X4_stops] at h
  refine lv_aload_n hx hb dX4_stops_0 rfl (lv_at hl 0 rfl) ?_
  refine mg hx hb hw4 hown hK hP 25 (by decide) (v := .ref (b 16)) rfl (hts (.fieldLink RX4 69 "BackupPowerModel" "modes" "[I") (by decide +kernel)) dX4_stops_1 ?_
  refine lv_iload_n hx hb dX4_stops_4 rfl (lv_at hl 1 rfl) ?_
  refine lv_iconst (v := 0) hx hb dX4_stops_5 (by decide) ?_
  refine mst hx hb hK ha hP hS 16 (by decide) (show x1 < 3 by omega) dX4_stops_6 (fun H locs hP hS => ?_)
  refine lv_aload_n hx hb dX4_stops_7 rfl (lv_at hl 0 rfl) ?_
  refine mg hx hb hw4 hown hK hP 26 (by decide) (v := .ref (b 17)) rfl (hts (.fieldLink RX4 72 "BackupPowerModel" "isTest" "[Z") (by decide +kernel)) dX4_stops_8 ?_
  refine lv_iload_n hx hb dX4_stops_11 rfl (lv_at hl 1 rfl) ?_
  refine lv_iconst (v := 0) hx hb dX4_stops_12 (by decide) ?_
  refine mzst hx hb hK ha hP hS isB_0 (show x1 < 3 by omega) dX4_stops_13 (fun H locs hP hS => ?_)
  exact gRv (wf := MW G.2 b n) (S := (muA (muA S 16 x1 0) 17 x1 0)) hx hb hr hlocks hP hS h dX4_stops_14

def f_X4_goesOnStarting_b94 (n : Nat × Nat × Nat) (x1 : Nat) (S94 : MS) : MS := S94
def f_X4_goesOnStarting_c74 (n : Nat × Nat × Nat) (x1 : Nat) (p74 : MS) : MS := (f_X4_goesOnStarting_b94 n x1 p74)
def f_X4_goesOnStarting_b70 (n : Nat × Nat × Nat) (x1 : Nat) (S70 : MS) (s2_70 : Int32) (s3_70 : Int32) : MS := (f_X4_goesOnStarting_c74 n x1 (f_X4_stops n x1 (muA S70 26 x1 (s2_70 + s3_70))))
def f_X4_goesOnStarting (n : Nat × Nat × Nat) (x1 : Nat) (S : MS) : MS := (if ((muA S 18 x1 ((S.2 18 x1) - 1)).2 18 x1) ≤ 0 then (if ((muA S 18 x1 ((S.2 18 x1) - 1)).2 21 x1) ≤ 0 then (f_X4_goesOnStarting_b94 n x1 (muA (muA (muA S 18 x1 ((S.2 18 x1) - 1)) 16 x1 2) 19 x1 0)) else (if ((muA (muA (muA S 18 x1 ((S.2 18 x1) - 1)) 21 x1 (((muA S 18 x1 ((S.2 18 x1) - 1)).2 21 x1) - 1)) 24 x1 (((muA (muA S 18 x1 ((S.2 18 x1) - 1)) 21 x1 (((muA S 18 x1 ((S.2 18 x1) - 1)).2 21 x1) - 1)).2 24 x1) + 1)).2 17 x1) = 0 then (f_X4_goesOnStarting_b70 n x1 (muA (muA (muA S 18 x1 ((S.2 18 x1) - 1)) 21 x1 (((muA S 18 x1 ((S.2 18 x1) - 1)).2 21 x1) - 1)) 24 x1 (((muA (muA S 18 x1 ((S.2 18 x1) - 1)) 21 x1 (((muA S 18 x1 ((S.2 18 x1) - 1)).2 21 x1) - 1)).2 24 x1) + 1)) ((muA (muA (muA S 18 x1 ((S.2 18 x1) - 1)) 21 x1 (((muA S 18 x1 ((S.2 18 x1) - 1)).2 21 x1) - 1)) 24 x1 (((muA (muA S 18 x1 ((S.2 18 x1) - 1)) 21 x1 (((muA S 18 x1 ((S.2 18 x1) - 1)).2 21 x1) - 1)).2 24 x1) + 1)).2 26 x1) 0) else (f_X4_goesOnStarting_b70 n x1 (muA (muA (muA S 18 x1 ((S.2 18 x1) - 1)) 21 x1 (((muA S 18 x1 ((S.2 18 x1) - 1)).2 21 x1) - 1)) 24 x1 (((muA (muA S 18 x1 ((S.2 18 x1) - 1)) 21 x1 (((muA S 18 x1 ((S.2 18 x1) - 1)).2 21 x1) - 1)).2 24 x1) + 1)) ((muA (muA (muA S 18 x1 ((S.2 18 x1) - 1)) 21 x1 (((muA S 18 x1 ((S.2 18 x1) - 1)).2 21 x1) - 1)) 24 x1 (((muA (muA S 18 x1 ((S.2 18 x1) - 1)) 21 x1 (((muA S 18 x1 ((S.2 18 x1) - 1)).2 21 x1) - 1)).2 24 x1) + 1)).2 26 x1) 1))) else (muA S 18 x1 ((S.2 18 x1) - 1)))
set_option maxHeartbeats 4000000 in
set_option maxRecDepth 100000 in
theorem c_X4_goesOnStarting (l : Launch) (G : WG) (b : Nat → Nat) (ha : wInj 27 b) (n : Nat × Nat × Nat) (hn : n.1 ≤ 10 ∧ n.2.1 ≤ 3 ∧ n.2.2 ≤ 3) (x1 : Nat) (hx1 : x1 < 3) (S : MS) (sz : Nat) : gMv l yX4_goesOnStarting wsX4_goesOnStarting ({ frames := 1, cells := 0, slots := 0, locals := 21 }) G 27 b (MW G.2 b n) [.ref (b 0), .int (nI x1)] S sz (f_X4_goesOnStarting n x1 S) := by
  unfold gMv
  refine Met.ofW (cc := cX4_goesOnStarting) (maxL := 2) (ret := none) (by decide) rfl ?_
  intro p e s m args below meth c s₁ B hml hv
  obtain ⟨rfl, rfl, hP, hK⟩ := hv
  have hx := B.exec
  have hb := B.bytes
  have hr := B.returns
  have hts := atoms_spec (ws := wsX4_goesOnStarting) B.pre
  have hown : s.vm.findClass RX4 = some m.cls := findClass_of_methodNamed B.named
  have hlocks := B.notSynchronized
  have hS : va_S (wA 27 b s.heap.size) s.heap s.heap [] := va_S.rf
  have hw4 : ∀ w ∈ wsX40, w.before ([.ref (b 0), .int (nI x1)] : List Value).toArray s = true := fun w hw => hts w ((by decide +kernel : ∀ w ∈ wsX40, w ∈ wsX4_goesOnStarting) w hw)
  have hl := lv_entry ([.ref (b 0), .int (nI x1)]) (n := 2) (Nat.le_of_ble_eq_true rfl)
  rw [lg_entry_eq]
  generalize (lg_sl ([.ref (b 0), .int (nI x1)] : List Value) ++ List.replicate (2 - (lg_sl ([.ref (b 0), .int (nI x1)] : List Value)).length) Slot.unset).toArray = ls at hl ⊢
  have hl : lv_has ls 2 [(0, .ref (b 0)), (1, .int (nI x1))] := hl
  generalize hF : f_X4_goesOnStarting n x1 S = F
  have h : f_X4_goesOnStarting n x1 S = F := hF
  clear hF
  show W p l e ({ frames := 1, cells := 0, slots := 0, locals := 21 } : Room) s m ([.ref (b 0), .int (nI x1)] : List Value).toArray below meth c s.heap [] 0 0 (gQv below G (MW G.2 b n) 27 b F ([.ref (b 0), .int (nI x1)] : List Value).toArray s) (F0 m 0 ls [])
  have J94 : ∀ (S94 : MS), f_X4_goesOnStarting_b94 n x1 S94 = F → ∀ (H : Heap) (locs : List Loc) (ls : Array Slot), wM G b n S94 H → va_S (wA 27 b s.heap.size) s.heap H locs → lv_has ls 2 [] → W p l e ({ frames := 1, cells := 0, slots := 0, locals := 21 } : Room) s m ([.ref (b 0), .int (nI x1)] : List Value).toArray below meth c H locs 0 0 (gQv below G (MW G.2 b n) 27 b F ([.ref (b 0), .int (nI x1)] : List Value).toArray s) (F0 m 94 ls []) := by
    intro S94 h H locs ls hP hS hl
    rewrite [f_X4_goesOnStarting_b94] at h
    exact gRv (wf := MW G.2 b n) (S := S94) hx hb hr hlocks hP hS h dX4_goesOnStarting_94
  have J70 : ∀ (S70 : MS) (s2_70 : Int32) (s3_70 : Int32), (isB s3_70) → f_X4_goesOnStarting_b70 n x1 S70 s2_70 s3_70 = F → ∀ (H : Heap) (locs : List Loc) (ls : Array Slot), wM G b n S70 H → va_S (wA 27 b s.heap.size) s.heap H locs → lv_has ls 2 [(0, .ref (b 0)), (1, .int (nI x1))] → W p l e ({ frames := 1, cells := 0, slots := 0, locals := 21 } : Room) s m ([.ref (b 0), .int (nI x1)] : List Value).toArray below meth c H locs 0 0 (gQv below G (MW G.2 b n) 27 b F ([.ref (b 0), .int (nI x1)] : List Value).toArray s) (F0 m 70 ls [.int s3_70, .int s2_70, .int (nI x1), .ref (b 26)]) := by
    intro S70 s2_70 s3_70 hbs3_70 h H locs ls hP hS hl
    rewrite [f_X4_goesOnStarting_b70] at h
    refine lv_iadd hx hb dX4_goesOnStarting_70 ?_
    refine mst hx hb hK ha hP hS 26 (by decide) (show x1 < 3 by omega) dX4_goesOnStarting_71 (fun H locs hP hS => ?_)
    refine lv_aload_n hx hb dX4_goesOnStarting_72 rfl (lv_at hl 0 rfl) ?_
    refine lv_iload_n hx hb dX4_goesOnStarting_73 rfl (lv_at hl 1 rfl) ?_
    refine gcVv (wf := MW G.2 b n) (N := 27) (ad := b) (As := [.int (nI x1)]) (rest := []) (S := muA S70 26 x1 (s2_70 + s3_70)) ⟨hx, hb, hml, hown, hts⟩ hK hP hS (c_X4_stops l G b ha n hn x1 (by omega) (muA S70 26 x1 (s2_70 + s3_70)) _) (cwV 1 hts gX4_goesOnStarting_X4_stops rfl rfl rfl (by decide +kernel) ⟨Nat.le_of_ble_eq_true rfl, Nat.le_of_ble_eq_true rfl⟩) (mrO hK hP) rfl hl.1 rfl (Nat.le_of_ble_eq_true rfl) dX4_goesOnStarting_74 ⟨Nat.le_of_ble_eq_true rfl, Nat.le_of_ble_eq_true rfl⟩ (fun p74 H locs ep74 hP hS => ?_)
    rewrite [← ep74] at h
    rewrite [f_X4_goesOnStarting_c74] at h
    refine lv_goto (tgt := 94) hx hb dX4_goesOnStarting_77 (by decide) ?_
    exact J94 p74 h _ _ _ hP hS (lv_sub hl [] rfl)
  rewrite [f_X4_goesOnStarting] at h
  refine lv_aload_n hx hb dX4_goesOnStarting_0 rfl (lv_at hl 0 rfl) ?_
  refine mg hx hb hw4 hown hK hP 27 (by decide) (v := .ref (b 18)) rfl (hts (.fieldLink RX4 76 "BackupPowerModel" "toGo" "[I") (by decide +kernel)) dX4_goesOnStarting_1 ?_
  refine lv_iload_n hx hb dX4_goesOnStarting_4 rfl (lv_at hl 1 rfl) ?_
  refine lv_dup2_11 hx hb dX4_goesOnStarting_5 rfl rfl ?_
  refine mld hx hb hK hP 18 (by decide) (show x1 < 3 by omega) dX4_goesOnStarting_6 ?_
  refine lv_iconst (v := 1) hx hb dX4_goesOnStarting_7 (by decide) ?_
  refine lv_isub hx hb dX4_goesOnStarting_8 ?_
  refine mst hx hb hK ha hP hS 18 (by decide) (show x1 < 3 by omega) dX4_goesOnStarting_9 (fun H locs hP hS => ?_)
  refine lv_aload_n hx hb dX4_goesOnStarting_10 rfl (lv_at hl 0 rfl) ?_
  refine mg hx hb hw4 hown hK hP 27 (by decide) (v := .ref (b 18)) rfl (hts (.fieldLink RX4 76 "BackupPowerModel" "toGo" "[I") (by decide +kernel)) dX4_goesOnStarting_11 ?_
  refine lv_iload_n hx hb dX4_goesOnStarting_14 rfl (lv_at hl 1 rfl) ?_
  refine mld hx hb hK hP 18 (by decide) (show x1 < 3 by omega) dX4_goesOnStarting_15 ?_
  refine lv_if_le (tgt := 20) hx hb dX4_goesOnStarting_16 (by decide) (fun c16 => ?_) (fun c16 => ?_)
  · rewrite [if_pos c16] at h
    refine lv_aload_n hx hb dX4_goesOnStarting_20 rfl (lv_at hl 0 rfl) ?_
    refine mg hx hb hw4 hown hK hP 30 (by decide) (v := .ref (b 21)) rfl (hts (.fieldLink RX4 85 "BackupPowerModel" "failures" "[I") (by decide +kernel)) dX4_goesOnStarting_21 ?_
    refine lv_iload_n hx hb dX4_goesOnStarting_24 rfl (lv_at hl 1 rfl) ?_
    refine mld hx hb hK hP 21 (by decide) (show x1 < 3 by omega) dX4_goesOnStarting_25 ?_
    refine lv_if_le (tgt := 80) hx hb dX4_goesOnStarting_26 (by decide) (fun c26 => ?_) (fun c26 => ?_)
    · rewrite [if_pos c26] at h
      refine lv_aload_n hx hb dX4_goesOnStarting_80 rfl (lv_at hl 0 rfl) ?_
      refine mg hx hb hw4 hown hK hP 25 (by decide) (v := .ref (b 16)) rfl (hts (.fieldLink RX4 69 "BackupPowerModel" "modes" "[I") (by decide +kernel)) dX4_goesOnStarting_81 ?_
      refine lv_iload_n hx hb dX4_goesOnStarting_84 rfl (lv_at hl 1 rfl) ?_
      refine lv_iconst (v := 2) hx hb dX4_goesOnStarting_85 (by decide) ?_
      refine mst hx hb hK ha hP hS 16 (by decide) (show x1 < 3 by omega) dX4_goesOnStarting_86 (fun H locs hP hS => ?_)
      refine lv_aload_n hx hb dX4_goesOnStarting_87 rfl (lv_at hl 0 rfl) ?_
      refine mg hx hb hw4 hown hK hP 28 (by decide) (v := .ref (b 19)) rfl (hts (.fieldLink RX4 79 "BackupPowerModel" "ran" "[I") (by decide +kernel)) dX4_goesOnStarting_88 ?_
      refine lv_iload_n hx hb dX4_goesOnStarting_91 rfl (lv_at hl 1 rfl) ?_
      refine lv_iconst (v := 0) hx hb dX4_goesOnStarting_92 (by decide) ?_
      refine mst hx hb hK ha hP hS 19 (by decide) (show x1 < 3 by omega) dX4_goesOnStarting_93 (fun H locs hP hS => ?_)
      exact J94 (muA (muA (muA S 18 x1 ((S.2 18 x1) - 1)) 16 x1 2) 19 x1 0) h _ _ _ hP hS (lv_sub hl [] rfl)
    · rewrite [if_neg c26] at h
      refine lv_aload_n hx hb dX4_goesOnStarting_29 rfl (lv_at hl 0 rfl) ?_
      refine mg hx hb hw4 hown hK hP 30 (by decide) (v := .ref (b 21)) rfl (hts (.fieldLink RX4 85 "BackupPowerModel" "failures" "[I") (by decide +kernel)) dX4_goesOnStarting_30 ?_
      refine lv_iload_n hx hb dX4_goesOnStarting_33 rfl (lv_at hl 1 rfl) ?_
      refine lv_dup2_11 hx hb dX4_goesOnStarting_34 rfl rfl ?_
      refine mld hx hb hK hP 21 (by decide) (show x1 < 3 by omega) dX4_goesOnStarting_35 ?_
      refine lv_iconst (v := 1) hx hb dX4_goesOnStarting_36 (by decide) ?_
      refine lv_isub hx hb dX4_goesOnStarting_37 ?_
      refine mst hx hb hK ha hP hS 21 (by decide) (show x1 < 3 by omega) dX4_goesOnStarting_38 (fun H locs hP hS => ?_)
      refine lv_aload_n hx hb dX4_goesOnStarting_39 rfl (lv_at hl 0 rfl) ?_
      refine mg hx hb hw4 hown hK hP 33 (by decide) (v := .ref (b 24)) rfl (hts (.fieldLink RX4 94 "BackupPowerModel" "failed" "[I") (by decide +kernel)) dX4_goesOnStarting_40 ?_
      refine lv_iload_n hx hb dX4_goesOnStarting_43 rfl (lv_at hl 1 rfl) ?_
      refine lv_dup2_11 hx hb dX4_goesOnStarting_44 rfl rfl ?_
      refine mld hx hb hK hP 24 (by decide) (show x1 < 3 by omega) dX4_goesOnStarting_45 ?_
      refine lv_iconst (v := 1) hx hb dX4_goesOnStarting_46 (by decide) ?_
      refine lv_iadd hx hb dX4_goesOnStarting_47 ?_
      refine mst hx hb hK ha hP hS 24 (by decide) (show x1 < 3 by omega) dX4_goesOnStarting_48 (fun H locs hP hS => ?_)
      refine lv_aload_n hx hb dX4_goesOnStarting_49 rfl (lv_at hl 0 rfl) ?_
      refine mg hx hb hw4 hown hK hP 35 (by decide) (v := .ref (b 26)) rfl (hts (.fieldLink RX4 100 "BackupPowerModel" "failedTests" "[I") (by decide +kernel)) dX4_goesOnStarting_50 ?_
      refine lv_iload_n hx hb dX4_goesOnStarting_53 rfl (lv_at hl 1 rfl) ?_
      refine lv_dup2_11 hx hb dX4_goesOnStarting_54 rfl rfl ?_
      refine mld hx hb hK hP 26 (by decide) (show x1 < 3 by omega) dX4_goesOnStarting_55 ?_
      refine lv_aload_n hx hb dX4_goesOnStarting_56 rfl (lv_at hl 0 rfl) ?_
      refine mg hx hb hw4 hown hK hP 26 (by decide) (v := .ref (b 17)) rfl (hts (.fieldLink RX4 72 "BackupPowerModel" "isTest" "[Z") (by decide +kernel)) dX4_goesOnStarting_57 ?_
      refine lv_iload_n hx hb dX4_goesOnStarting_60 rfl (lv_at hl 1 rfl) ?_
      refine mzld hx hb hK hP (show x1 < 3 by omega) dX4_goesOnStarting_61 ?_
      refine lv_if_eq (tgt := 69) hx hb dX4_goesOnStarting_62 (by decide) (fun c62 => ?_) (fun c62 => ?_)
      · rewrite [if_pos c62] at h
        refine lv_iconst (v := 0) hx hb dX4_goesOnStarting_69 (by decide) ?_
        exact J70 (muA (muA (muA S 18 x1 ((S.2 18 x1) - 1)) 21 x1 (((muA S 18 x1 ((S.2 18 x1) - 1)).2 21 x1) - 1)) 24 x1 (((muA (muA S 18 x1 ((S.2 18 x1) - 1)) 21 x1 (((muA S 18 x1 ((S.2 18 x1) - 1)).2 21 x1) - 1)).2 24 x1) + 1)) ((muA (muA (muA S 18 x1 ((S.2 18 x1) - 1)) 21 x1 (((muA S 18 x1 ((S.2 18 x1) - 1)).2 21 x1) - 1)) 24 x1 (((muA (muA S 18 x1 ((S.2 18 x1) - 1)) 21 x1 (((muA S 18 x1 ((S.2 18 x1) - 1)).2 21 x1) - 1)).2 24 x1) + 1)).2 26 x1) 0 isB_0 h _ _ _ hP hS (lv_sub hl [0, 1] rfl)
      · rewrite [if_neg c62] at h
        refine lv_iconst (v := 1) hx hb dX4_goesOnStarting_65 (by decide) ?_
        refine lv_goto (tgt := 70) hx hb dX4_goesOnStarting_66 (by decide) ?_
        exact J70 (muA (muA (muA S 18 x1 ((S.2 18 x1) - 1)) 21 x1 (((muA S 18 x1 ((S.2 18 x1) - 1)).2 21 x1) - 1)) 24 x1 (((muA (muA S 18 x1 ((S.2 18 x1) - 1)) 21 x1 (((muA S 18 x1 ((S.2 18 x1) - 1)).2 21 x1) - 1)).2 24 x1) + 1)) ((muA (muA (muA S 18 x1 ((S.2 18 x1) - 1)) 21 x1 (((muA S 18 x1 ((S.2 18 x1) - 1)).2 21 x1) - 1)) 24 x1 (((muA (muA S 18 x1 ((S.2 18 x1) - 1)) 21 x1 (((muA S 18 x1 ((S.2 18 x1) - 1)).2 21 x1) - 1)).2 24 x1) + 1)).2 26 x1) 1 isB_1 h _ _ _ hP hS (lv_sub hl [0, 1] rfl)
  · rewrite [if_neg c16] at h
    exact gRv (wf := MW G.2 b n) (S := (muA S 18 x1 ((S.2 18 x1) - 1))) hx hb hr hlocks hP hS h dX4_goesOnStarting_19

def f_X4_goesOnRunning_b89 (n : Nat × Nat × Nat) (x1 : Nat) (S89 : MS) : MS := S89
def f_X4_goesOnRunning_c86 (n : Nat × Nat × Nat) (x1 : Nat) (p86 : MS) : MS := (f_X4_goesOnRunning_b89 n x1 p86)
def f_X4_goesOnRunning_b68 (n : Nat × Nat × Nat) (x1 : Nat) (S68 : MS) : MS := (if (S68.2 17 x1) = 0 then (if (S68.1 2) = 0 then (f_X4_goesOnRunning_b89 n x1 S68) else (f_X4_goesOnRunning_c86 n x1 (f_X4_stops n x1 S68))) else (f_X4_goesOnRunning_b89 n x1 S68))
def f_X4_goesOnRunning_c62 (n : Nat × Nat × Nat) (x1 : Nat) (p62 : MS) : MS := (f_X4_goesOnRunning_b89 n x1 p62)
def f_X4_goesOnRunning_b26 (n : Nat × Nat × Nat) (x1 : Nat) (S26 : MS) : MS := (if (S26.2 17 x1) = 0 then (f_X4_goesOnRunning_b68 n x1 S26) else (if (S26.2 19 x1) < (S26.2 23 x1) then (f_X4_goesOnRunning_b68 n x1 S26) else (f_X4_goesOnRunning_c62 n x1 (f_X4_stops n x1 (muA S26 25 x1 ((S26.2 25 x1) + 1))))))
def f_X4_goesOnRunning (n : Nat × Nat × Nat) (x1 : Nat) (S : MS) : MS := (if (S.2 17 x1) = 0 then (f_X4_goesOnRunning_b26 n x1 S) else (if (S.1 2) = 0 then (f_X4_goesOnRunning_b89 n x1 (muA S 17 x1 0)) else (f_X4_goesOnRunning_b26 n x1 S)))
set_option maxHeartbeats 4000000 in
set_option maxRecDepth 100000 in
theorem c_X4_goesOnRunning (l : Launch) (G : WG) (b : Nat → Nat) (ha : wInj 27 b) (n : Nat × Nat × Nat) (hn : n.1 ≤ 10 ∧ n.2.1 ≤ 3 ∧ n.2.2 ≤ 3) (x1 : Nat) (hx1 : x1 < 3) (S : MS) (sz : Nat) : gMv l yX4_goesOnRunning wsX4_goesOnRunning ({ frames := 1, cells := 0, slots := 0, locals := 21 }) G 27 b (MW G.2 b n) [.ref (b 0), .int (nI x1)] S sz (f_X4_goesOnRunning n x1 S) := by
  unfold gMv
  refine Met.ofW (cc := cX4_goesOnRunning) (maxL := 2) (ret := none) (by decide) rfl ?_
  intro p e s m args below meth c s₁ B hml hv
  obtain ⟨rfl, rfl, hP, hK⟩ := hv
  have hx := B.exec
  have hb := B.bytes
  have hr := B.returns
  have hts := atoms_spec (ws := wsX4_goesOnRunning) B.pre
  have hown : s.vm.findClass RX4 = some m.cls := findClass_of_methodNamed B.named
  have hlocks := B.notSynchronized
  have hS : va_S (wA 27 b s.heap.size) s.heap s.heap [] := va_S.rf
  have hw4 : ∀ w ∈ wsX40, w.before ([.ref (b 0), .int (nI x1)] : List Value).toArray s = true := fun w hw => hts w ((by decide +kernel : ∀ w ∈ wsX40, w ∈ wsX4_goesOnRunning) w hw)
  have hl := lv_entry ([.ref (b 0), .int (nI x1)]) (n := 2) (Nat.le_of_ble_eq_true rfl)
  rw [lg_entry_eq]
  generalize (lg_sl ([.ref (b 0), .int (nI x1)] : List Value) ++ List.replicate (2 - (lg_sl ([.ref (b 0), .int (nI x1)] : List Value)).length) Slot.unset).toArray = ls at hl ⊢
  have hl : lv_has ls 2 [(0, .ref (b 0)), (1, .int (nI x1))] := hl
  generalize hF : f_X4_goesOnRunning n x1 S = F
  have h : f_X4_goesOnRunning n x1 S = F := hF
  clear hF
  show W p l e ({ frames := 1, cells := 0, slots := 0, locals := 21 } : Room) s m ([.ref (b 0), .int (nI x1)] : List Value).toArray below meth c s.heap [] 0 0 (gQv below G (MW G.2 b n) 27 b F ([.ref (b 0), .int (nI x1)] : List Value).toArray s) (F0 m 0 ls [])
  have J89 : ∀ (S89 : MS), f_X4_goesOnRunning_b89 n x1 S89 = F → ∀ (H : Heap) (locs : List Loc) (ls : Array Slot), wM G b n S89 H → va_S (wA 27 b s.heap.size) s.heap H locs → lv_has ls 2 [] → W p l e ({ frames := 1, cells := 0, slots := 0, locals := 21 } : Room) s m ([.ref (b 0), .int (nI x1)] : List Value).toArray below meth c H locs 0 0 (gQv below G (MW G.2 b n) 27 b F ([.ref (b 0), .int (nI x1)] : List Value).toArray s) (F0 m 89 ls []) := by
    intro S89 h H locs ls hP hS hl
    rewrite [f_X4_goesOnRunning_b89] at h
    exact gRv (wf := MW G.2 b n) (S := S89) hx hb hr hlocks hP hS h dX4_goesOnRunning_89
  have J26 : ∀ (S26 : MS), f_X4_goesOnRunning_b26 n x1 S26 = F → ∀ (H : Heap) (locs : List Loc) (ls : Array Slot), wM G b n S26 H → va_S (wA 27 b s.heap.size) s.heap H locs → lv_has ls 2 [(0, .ref (b 0)), (1, .int (nI x1))] → W p l e ({ frames := 1, cells := 0, slots := 0, locals := 21 } : Room) s m ([.ref (b 0), .int (nI x1)] : List Value).toArray below meth c H locs 0 0 (gQv below G (MW G.2 b n) 27 b F ([.ref (b 0), .int (nI x1)] : List Value).toArray s) (F0 m 26 ls []) := by
    intro S26 h H locs ls hP hS hl
    have J68 : ∀ (S68 : MS), f_X4_goesOnRunning_b68 n x1 S68 = F → ∀ (H : Heap) (locs : List Loc) (ls : Array Slot), wM G b n S68 H → va_S (wA 27 b s.heap.size) s.heap H locs → lv_has ls 2 [(0, .ref (b 0)), (1, .int (nI x1))] → W p l e ({ frames := 1, cells := 0, slots := 0, locals := 21 } : Room) s m ([.ref (b 0), .int (nI x1)] : List Value).toArray below meth c H locs 0 0 (gQv below G (MW G.2 b n) 27 b F ([.ref (b 0), .int (nI x1)] : List Value).toArray s) (F0 m 68 ls []) := by
      intro S68 h H locs ls hP hS hl
      rewrite [f_X4_goesOnRunning_b68] at h
      refine lv_aload_n hx hb dX4_goesOnRunning_68 rfl (lv_at hl 0 rfl) ?_
      refine mg hx hb hw4 hown hK hP 26 (by decide) (v := .ref (b 17)) rfl (hts (.fieldLink RX4 72 "BackupPowerModel" "isTest" "[Z") (by decide +kernel)) dX4_goesOnRunning_69 ?_
      refine lv_iload_n hx hb dX4_goesOnRunning_72 rfl (lv_at hl 1 rfl) ?_
      refine mzld hx hb hK hP (show x1 < 3 by omega) dX4_goesOnRunning_73 ?_
      refine lv_if_ne (tgt := 89) hx hb dX4_goesOnRunning_74 (by decide) (fun c74 => ?_) (fun c74 => ?_)
      · rewrite [if_neg c74] at h
        exact J89 S68 h _ _ _ hP hS (lv_sub hl [] rfl)
      · rewrite [if_pos c74] at h
        refine lv_aload_n hx hb dX4_goesOnRunning_77 rfl (lv_at hl 0 rfl) ?_
        refine mg hx hb hw4 hown hK hP 2 (by decide) (v := .int (S68.1 2)) rfl (hts (.fieldLink RX4 7 "BackupPowerModel" "areUp" "Z") (by decide +kernel)) dX4_goesOnRunning_78 ?_
        refine lv_if_eq (tgt := 89) hx hb dX4_goesOnRunning_81 (by decide) (fun c81 => ?_) (fun c81 => ?_)
        · rewrite [if_pos c81] at h
          exact J89 S68 h _ _ _ hP hS (lv_sub hl [] rfl)
        · rewrite [if_neg c81] at h
          refine lv_aload_n hx hb dX4_goesOnRunning_84 rfl (lv_at hl 0 rfl) ?_
          refine lv_iload_n hx hb dX4_goesOnRunning_85 rfl (lv_at hl 1 rfl) ?_
          refine gcVv (wf := MW G.2 b n) (N := 27) (ad := b) (As := [.int (nI x1)]) (rest := []) (S := S68) ⟨hx, hb, hml, hown, hts⟩ hK hP hS (c_X4_stops l G b ha n hn x1 (by omega) S68 _) (cwV 1 hts gX4_goesOnRunning_X4_stops rfl rfl rfl (by decide +kernel) ⟨Nat.le_of_ble_eq_true rfl, Nat.le_of_ble_eq_true rfl⟩) (mrO hK hP) rfl hl.1 rfl (Nat.le_of_ble_eq_true rfl) dX4_goesOnRunning_86 ⟨Nat.le_of_ble_eq_true rfl, Nat.le_of_ble_eq_true rfl⟩ (fun p86 H locs ep86 hP hS => ?_)
          rewrite [← ep86] at h
          rewrite [f_X4_goesOnRunning_c86] at h
          exact J89 p86 h _ _ _ hP hS (lv_sub hl [] rfl)
    rewrite [f_X4_goesOnRunning_b26] at h
    refine lv_aload_n hx hb dX4_goesOnRunning_26 rfl (lv_at hl 0 rfl) ?_
    refine mg hx hb hw4 hown hK hP 26 (by decide) (v := .ref (b 17)) rfl (hts (.fieldLink RX4 72 "BackupPowerModel" "isTest" "[Z") (by decide +kernel)) dX4_goesOnRunning_27 ?_
    refine lv_iload_n hx hb dX4_goesOnRunning_30 rfl (lv_at hl 1 rfl) ?_
    refine mzld hx hb hK hP (show x1 < 3 by omega) dX4_goesOnRunning_31 ?_
    refine lv_if_eq (tgt := 68) hx hb dX4_goesOnRunning_32 (by decide) (fun c32 => ?_) (fun c32 => ?_)
    · rewrite [if_pos c32] at h
      exact J68 S26 h _ _ _ hP hS (lv_sub hl [0, 1] rfl)
    · rewrite [if_neg c32] at h
      refine lv_aload_n hx hb dX4_goesOnRunning_35 rfl (lv_at hl 0 rfl) ?_
      refine mg hx hb hw4 hown hK hP 28 (by decide) (v := .ref (b 19)) rfl (hts (.fieldLink RX4 79 "BackupPowerModel" "ran" "[I") (by decide +kernel)) dX4_goesOnRunning_36 ?_
      refine lv_iload_n hx hb dX4_goesOnRunning_39 rfl (lv_at hl 1 rfl) ?_
      refine mld hx hb hK hP 19 (by decide) (show x1 < 3 by omega) dX4_goesOnRunning_40 ?_
      refine lv_aload_n hx hb dX4_goesOnRunning_41 rfl (lv_at hl 0 rfl) ?_
      refine mg hx hb hw4 hown hK hP 32 (by decide) (v := .ref (b 23)) rfl (hts (.fieldLink RX4 91 "BackupPowerModel" "lengths" "[I") (by decide +kernel)) dX4_goesOnRunning_42 ?_
      refine lv_iload_n hx hb dX4_goesOnRunning_45 rfl (lv_at hl 1 rfl) ?_
      refine mld hx hb hK hP 23 (by decide) (show x1 < 3 by omega) dX4_goesOnRunning_46 ?_
      refine lv_icmp_lt (tgt := 68) hx hb dX4_goesOnRunning_47 (by decide) (fun c47 => ?_) (fun c47 => ?_)
      · rewrite [if_pos c47] at h
        exact J68 S26 h _ _ _ hP hS (lv_sub hl [0, 1] rfl)
      · rewrite [if_neg c47] at h
        refine lv_aload_n hx hb dX4_goesOnRunning_50 rfl (lv_at hl 0 rfl) ?_
        refine mg hx hb hw4 hown hK hP 34 (by decide) (v := .ref (b 25)) rfl (hts (.fieldLink RX4 97 "BackupPowerModel" "passedTests" "[I") (by decide +kernel)) dX4_goesOnRunning_51 ?_
        refine lv_iload_n hx hb dX4_goesOnRunning_54 rfl (lv_at hl 1 rfl) ?_
        refine lv_dup2_11 hx hb dX4_goesOnRunning_55 rfl rfl ?_
        refine mld hx hb hK hP 25 (by decide) (show x1 < 3 by omega) dX4_goesOnRunning_56 ?_
        refine lv_iconst (v := 1) hx hb dX4_goesOnRunning_57 (by decide) ?_
        refine lv_iadd hx hb dX4_goesOnRunning_58 ?_
        refine mst hx hb hK ha hP hS 25 (by decide) (show x1 < 3 by omega) dX4_goesOnRunning_59 (fun H locs hP hS => ?_)
        refine lv_aload_n hx hb dX4_goesOnRunning_60 rfl (lv_at hl 0 rfl) ?_
        refine lv_iload_n hx hb dX4_goesOnRunning_61 rfl (lv_at hl 1 rfl) ?_
        refine gcVv (wf := MW G.2 b n) (N := 27) (ad := b) (As := [.int (nI x1)]) (rest := []) (S := muA S26 25 x1 ((S26.2 25 x1) + 1)) ⟨hx, hb, hml, hown, hts⟩ hK hP hS (c_X4_stops l G b ha n hn x1 (by omega) (muA S26 25 x1 ((S26.2 25 x1) + 1)) _) (cwV 1 hts gX4_goesOnRunning_X4_stops rfl rfl rfl (by decide +kernel) ⟨Nat.le_of_ble_eq_true rfl, Nat.le_of_ble_eq_true rfl⟩) (mrO hK hP) rfl hl.1 rfl (Nat.le_of_ble_eq_true rfl) dX4_goesOnRunning_62 ⟨Nat.le_of_ble_eq_true rfl, Nat.le_of_ble_eq_true rfl⟩ (fun p62 H locs ep62 hP hS => ?_)
        rewrite [← ep62] at h
        rewrite [f_X4_goesOnRunning_c62] at h
        refine lv_goto (tgt := 89) hx hb dX4_goesOnRunning_65 (by decide) ?_
        exact J89 p62 h _ _ _ hP hS (lv_sub hl [] rfl)
  rewrite [f_X4_goesOnRunning] at h
  refine lv_aload_n hx hb dX4_goesOnRunning_0 rfl (lv_at hl 0 rfl) ?_
  refine mg hx hb hw4 hown hK hP 26 (by decide) (v := .ref (b 17)) rfl (hts (.fieldLink RX4 72 "BackupPowerModel" "isTest" "[Z") (by decide +kernel)) dX4_goesOnRunning_1 ?_
  refine lv_iload_n hx hb dX4_goesOnRunning_4 rfl (lv_at hl 1 rfl) ?_
  refine mzld hx hb hK hP (show x1 < 3 by omega) dX4_goesOnRunning_5 ?_
  refine lv_if_eq (tgt := 26) hx hb dX4_goesOnRunning_6 (by decide) (fun c6 => ?_) (fun c6 => ?_)
  · rewrite [if_pos c6] at h
    exact J26 S h _ _ _ hP hS (lv_sub hl [0, 1] rfl)
  · rewrite [if_neg c6] at h
    refine lv_aload_n hx hb dX4_goesOnRunning_9 rfl (lv_at hl 0 rfl) ?_
    refine mg hx hb hw4 hown hK hP 2 (by decide) (v := .int (S.1 2)) rfl (hts (.fieldLink RX4 7 "BackupPowerModel" "areUp" "Z") (by decide +kernel)) dX4_goesOnRunning_10 ?_
    refine lv_if_ne (tgt := 26) hx hb dX4_goesOnRunning_13 (by decide) (fun c13 => ?_) (fun c13 => ?_)
    · rewrite [if_neg c13] at h
      exact J26 S h _ _ _ hP hS (lv_sub hl [0, 1] rfl)
    · rewrite [if_pos c13] at h
      refine lv_aload_n hx hb dX4_goesOnRunning_16 rfl (lv_at hl 0 rfl) ?_
      refine mg hx hb hw4 hown hK hP 26 (by decide) (v := .ref (b 17)) rfl (hts (.fieldLink RX4 72 "BackupPowerModel" "isTest" "[Z") (by decide +kernel)) dX4_goesOnRunning_17 ?_
      refine lv_iload_n hx hb dX4_goesOnRunning_20 rfl (lv_at hl 1 rfl) ?_
      refine lv_iconst (v := 0) hx hb dX4_goesOnRunning_21 (by decide) ?_
      refine mzst hx hb hK ha hP hS isB_0 (show x1 < 3 by omega) dX4_goesOnRunning_22 (fun H locs hP hS => ?_)
      refine lv_goto (tgt := 89) hx hb dX4_goesOnRunning_23 (by decide) ?_
      exact J89 (muA S 17 x1 0) h _ _ _ hP hS (lv_sub hl [] rfl)

def f_X4_gives_b24 (n : Nat × Nat × Nat) (x1 : Nat) (S24 : MS) (s0_24 : Int32) : Int32 × MS := (s0_24, S24)
def f_X4_gives_b23 (n : Nat × Nat × Nat) (x1 : Nat) (S23 : MS) : Int32 × MS := (f_X4_gives_b24 n x1 S23 0)
def f_X4_gives (n : Nat × Nat × Nat) (x1 : Nat) (S : MS) : Int32 × MS := (if (S.2 16 x1) = 2 then (if (S.2 17 x1) = 0 then (f_X4_gives_b24 n x1 S 1) else (f_X4_gives_b23 n x1 S)) else (f_X4_gives_b23 n x1 S))
set_option maxHeartbeats 4000000 in
set_option maxRecDepth 100000 in
theorem c_X4_gives (l : Launch) (G : WG) (b : Nat → Nat) (ha : wInj 27 b) (n : Nat × Nat × Nat) (hn : n.1 ≤ 10 ∧ n.2.1 ≤ 3 ∧ n.2.2 ≤ 3) (x1 : Nat) (hx1 : x1 < 3) (S : MS) (sz : Nat) : gMz l yX4_gives wsX4_gives ({ frames := 0, cells := 0, slots := 0, locals := 0 }) G 27 b (MW G.2 b n) [.ref (b 0), .int (nI x1)] S sz (f_X4_gives n x1 S) := by
  unfold gMz
  refine Met.ofW (cc := cX4_gives) (maxL := 2) (ret := (some .boolean)) (by decide) rfl ?_
  intro p e s m args below meth c s₁ B hml hv
  obtain ⟨rfl, rfl, hP, hK⟩ := hv
  have hx := B.exec
  have hb := B.bytes
  have hr := B.returns
  have hts := atoms_spec (ws := wsX4_gives) B.pre
  have hown : s.vm.findClass RX4 = some m.cls := findClass_of_methodNamed B.named
  have hlocks := B.notSynchronized
  have hS : va_S (wA 27 b s.heap.size) s.heap s.heap [] := va_S.rf
  have hw4 : ∀ w ∈ wsX40, w.before ([.ref (b 0), .int (nI x1)] : List Value).toArray s = true := fun w hw => hts w ((by decide +kernel : ∀ w ∈ wsX40, w ∈ wsX4_gives) w hw)
  have hl := lv_entry ([.ref (b 0), .int (nI x1)]) (n := 2) (Nat.le_of_ble_eq_true rfl)
  rw [lg_entry_eq]
  generalize (lg_sl ([.ref (b 0), .int (nI x1)] : List Value) ++ List.replicate (2 - (lg_sl ([.ref (b 0), .int (nI x1)] : List Value)).length) Slot.unset).toArray = ls at hl ⊢
  have hl : lv_has ls 2 [(0, .ref (b 0)), (1, .int (nI x1))] := hl
  generalize hF : f_X4_gives n x1 S = F
  have h : f_X4_gives n x1 S = F := hF
  clear hF
  show W p l e ({ frames := 0, cells := 0, slots := 0, locals := 0 } : Room) s m ([.ref (b 0), .int (nI x1)] : List Value).toArray below meth c s.heap [] 0 0 (gQz below G (MW G.2 b n) 27 b F ([.ref (b 0), .int (nI x1)] : List Value).toArray s) (F0 m 0 ls [])
  have J24 : ∀ (S24 : MS) (s0_24 : Int32), (isB s0_24) → f_X4_gives_b24 n x1 S24 s0_24 = F → ∀ (H : Heap) (locs : List Loc) (ls : Array Slot), wM G b n S24 H → va_S (wA 27 b s.heap.size) s.heap H locs → lv_has ls 2 [] → W p l e ({ frames := 0, cells := 0, slots := 0, locals := 0 } : Room) s m ([.ref (b 0), .int (nI x1)] : List Value).toArray below meth c H locs 0 0 (gQz below G (MW G.2 b n) 27 b F ([.ref (b 0), .int (nI x1)] : List Value).toArray s) (F0 m 24 ls [.int s0_24]) := by
    intro S24 s0_24 hbs0_24 h H locs ls hP hS hl
    rewrite [f_X4_gives_b24] at h
    exact gRz (wf := MW G.2 b n) (S := S24) hx hb hr hlocks hbs0_24 hP hS h dX4_gives_24
  have J23 : ∀ (S23 : MS), f_X4_gives_b23 n x1 S23 = F → ∀ (H : Heap) (locs : List Loc) (ls : Array Slot), wM G b n S23 H → va_S (wA 27 b s.heap.size) s.heap H locs → lv_has ls 2 [] → W p l e ({ frames := 0, cells := 0, slots := 0, locals := 0 } : Room) s m ([.ref (b 0), .int (nI x1)] : List Value).toArray below meth c H locs 0 0 (gQz below G (MW G.2 b n) 27 b F ([.ref (b 0), .int (nI x1)] : List Value).toArray s) (F0 m 23 ls []) := by
    intro S23 h H locs ls hP hS hl
    rewrite [f_X4_gives_b23] at h
    refine lv_iconst (v := 0) hx hb dX4_gives_23 (by decide) ?_
    exact J24 S23 0 isB_0 h _ _ _ hP hS (lv_sub hl [] rfl)
  rewrite [f_X4_gives] at h
  refine lv_aload_n hx hb dX4_gives_0 rfl (lv_at hl 0 rfl) ?_
  refine mg hx hb hw4 hown hK hP 25 (by decide) (v := .ref (b 16)) rfl (hts (.fieldLink RX4 69 "BackupPowerModel" "modes" "[I") (by decide +kernel)) dX4_gives_1 ?_
  refine lv_iload_n hx hb dX4_gives_4 rfl (lv_at hl 1 rfl) ?_
  refine mld hx hb hK hP 16 (by decide) (show x1 < 3 by omega) dX4_gives_5 ?_
  refine lv_iconst (v := 2) hx hb dX4_gives_6 (by decide) ?_
  refine lv_icmp_ne (tgt := 23) hx hb dX4_gives_7 (by decide) (fun c7 => ?_) (fun c7 => ?_)
  · rewrite [if_neg c7] at h
    exact J23 S h _ _ _ hP hS (lv_sub hl [] rfl)
  · rewrite [if_pos c7] at h
    refine lv_aload_n hx hb dX4_gives_10 rfl (lv_at hl 0 rfl) ?_
    refine mg hx hb hw4 hown hK hP 26 (by decide) (v := .ref (b 17)) rfl (hts (.fieldLink RX4 72 "BackupPowerModel" "isTest" "[Z") (by decide +kernel)) dX4_gives_11 ?_
    refine lv_iload_n hx hb dX4_gives_14 rfl (lv_at hl 1 rfl) ?_
    refine mzld hx hb hK hP (show x1 < 3 by omega) dX4_gives_15 ?_
    refine lv_if_ne (tgt := 23) hx hb dX4_gives_16 (by decide) (fun c16 => ?_) (fun c16 => ?_)
    · rewrite [if_neg c16] at h
      exact J23 S h _ _ _ hP hS (lv_sub hl [] rfl)
    · rewrite [if_pos c16] at h
      refine lv_iconst (v := 1) hx hb dX4_gives_19 (by decide) ?_
      refine lv_goto (tgt := 24) hx hb dX4_gives_20 (by decide) ?_
      exact J24 S 1 isB_1 h _ _ _ hP hS (lv_sub hl [] rfl)

def f_X4_fromGeneratorsNow_b31 (n : Nat × Nat × Nat) (K4 : Nat → MS → Int32 → Int32 × MS) (k4 : Nat) (S31 : MS) (s0_31 : Int32) (s1_31 : Int32) : Int32 × MS := (K4 (k4 + 1) S31 (s0_31 + s1_31))
def f_X4_fromGeneratorsNow_c15 (n : Nat × Nat × Nat) (K4 : Nat → MS → Int32 → Int32 × MS) (k4 : Nat) (v1_4 : Int32) (p15 : Int32 × MS) : Int32 × MS := (if p15.1 = 0 then (f_X4_fromGeneratorsNow_b31 n K4 k4 p15.2 v1_4 0) else (f_X4_fromGeneratorsNow_b31 n K4 k4 p15.2 v1_4 (p15.2.2 12 k4)))
def f_X4_fromGeneratorsNow_h4 (n : Nat × Nat × Nat) : Nat → Nat → MS → Int32 → Int32 × MS
  | 0, _, S4, _ => (0, S4)
  | q + 1, k4, S4, v1_4 => (if n.2.2 ≤ k4 then (v1_4, S4) else (f_X4_fromGeneratorsNow_c15 n (f_X4_fromGeneratorsNow_h4 n q) k4 v1_4 (f_X4_gives n k4 S4)))
def f_X4_fromGeneratorsNow (n : Nat × Nat × Nat) (S : MS) : Int32 × MS := (f_X4_fromGeneratorsNow_h4 n (n.2.2 + 1) 0 S 0)
set_option maxHeartbeats 4000000 in
set_option maxRecDepth 100000 in
theorem c_X4_fromGeneratorsNow (l : Launch) (G : WG) (b : Nat → Nat) (ha : wInj 27 b) (n : Nat × Nat × Nat) (hn : n.1 ≤ 10 ∧ n.2.1 ≤ 3 ∧ n.2.2 ≤ 3) (S : MS) (sz : Nat) : gMi l yX4_fromGeneratorsNow wsX4_fromGeneratorsNow ({ frames := 1, cells := 0, slots := 0, locals := 21 }) G 27 b (MW G.2 b n) [.ref (b 0)] S sz (f_X4_fromGeneratorsNow n S) := by
  unfold gMi
  refine Met.ofW (cc := cX4_fromGeneratorsNow) (maxL := 3) (ret := (some .int)) (by decide) rfl ?_
  intro p e s m args below meth c s₁ B hml hv
  obtain ⟨rfl, rfl, hP, hK⟩ := hv
  have hx := B.exec
  have hb := B.bytes
  have hr := B.returns
  have hts := atoms_spec (ws := wsX4_fromGeneratorsNow) B.pre
  have hown : s.vm.findClass RX4 = some m.cls := findClass_of_methodNamed B.named
  have hlocks := B.notSynchronized
  have hS : va_S (wA 27 b s.heap.size) s.heap s.heap [] := va_S.rf
  have hw4 : ∀ w ∈ wsX40, w.before ([.ref (b 0)] : List Value).toArray s = true := fun w hw => hts w ((by decide +kernel : ∀ w ∈ wsX40, w ∈ wsX4_fromGeneratorsNow) w hw)
  have hl := lv_entry ([.ref (b 0)]) (n := 3) (Nat.le_of_ble_eq_true rfl)
  rw [lg_entry_eq]
  generalize (lg_sl ([.ref (b 0)] : List Value) ++ List.replicate (3 - (lg_sl ([.ref (b 0)] : List Value)).length) Slot.unset).toArray = ls at hl ⊢
  have hl : lv_has ls 3 [(0, .ref (b 0))] := hl
  generalize hF : f_X4_fromGeneratorsNow n S = F
  have h : f_X4_fromGeneratorsNow n S = F := hF
  clear hF
  show W p l e ({ frames := 1, cells := 0, slots := 0, locals := 21 } : Room) s m ([.ref (b 0)] : List Value).toArray below meth c s.heap [] 0 0 (gQi below G (MW G.2 b n) 27 b F ([.ref (b 0)] : List Value).toArray s) (F0 m 0 ls [])
  have L4 : ∀ (q4 : Nat) (k4 : Nat) (S4 : MS) (v1_4 : Int32), k4 ≤ n.2.2 → n.2.2 < k4 + q4 → f_X4_fromGeneratorsNow_h4 n q4 k4 S4 v1_4 = F → ∀ (H : Heap) (locs : List Loc) (ls : Array Slot), wM G b n S4 H → va_S (wA 27 b s.heap.size) s.heap H locs → lv_has ls 3 [(0, .ref (b 0)), (1, .int v1_4), (2, .int (nI k4))] → W p l e ({ frames := 1, cells := 0, slots := 0, locals := 21 } : Room) s m ([.ref (b 0)] : List Value).toArray below meth c H locs 0 0 (gQi below G (MW G.2 b n) 27 b F ([.ref (b 0)] : List Value).toArray s) (F0 m 4 ls []) := by
    intro q4
    induction q4 with
    | zero => intro k4 S4 v1_4 hk4 hq4 h H locs ls hP hS hl; omega
    | succ q4 ih4 =>
      intro k4 S4 v1_4 hk4 hq4 h H locs ls hP hS hl
      have J31 : ∀ (S31 : MS) (s0_31 : Int32) (s1_31 : Int32), (k4 < n.2.2) → f_X4_fromGeneratorsNow_b31 n (f_X4_fromGeneratorsNow_h4 n q4) k4 S31 s0_31 s1_31 = F → ∀ (H : Heap) (locs : List Loc) (ls : Array Slot), wM G b n S31 H → va_S (wA 27 b s.heap.size) s.heap H locs → lv_has ls 3 [(0, .ref (b 0)), (2, .int (nI k4))] → W p l e ({ frames := 1, cells := 0, slots := 0, locals := 21 } : Room) s m ([.ref (b 0)] : List Value).toArray below meth c H locs 0 0 (gQi below G (MW G.2 b n) 27 b F ([.ref (b 0)] : List Value).toArray s) (F0 m 31 ls [.int s1_31, .int s0_31]) := by
        intro S31 s0_31 s1_31 hkb4 h H locs ls hP hS hl
        rewrite [f_X4_fromGeneratorsNow_b31] at h
        refine lv_iadd hx hb dX4_fromGeneratorsNow_31 ?_
        refine lv_istore_n (lv' := [(1, .int (s0_31 + s1_31)), (0, .ref (b 0)), (2, .int (nI k4))]) hx hb dX4_fromGeneratorsNow_32 rfl hl (by decide) rfl (fun ls hl => ?_)
        refine lv_iinc (k := 2) (v := nI (k4 + 1)) (lv' := [(2, .int (nI (k4 + 1))), (1, .int (s0_31 + s1_31)), (0, .ref (b 0))]) hx hb dX4_fromGeneratorsNow_33 hl rfl (nI_inc _) (by decide) rfl (fun ls hl => ?_)
        refine lv_goto (tgt := 4) hx hb dX4_fromGeneratorsNow_36 (by decide) ?_
        exact ih4 (k4 + 1) S31 (s0_31 + s1_31) (by omega) (by omega) h _ _ _ hP hS (lv_sub hl [2, 1, 0] rfl)
      rewrite [f_X4_fromGeneratorsNow_h4] at h
      refine lv_iload_n hx hb dX4_fromGeneratorsNow_4 rfl (lv_at hl 2 rfl) ?_
      refine lv_aload_n hx hb dX4_fromGeneratorsNow_5 rfl (lv_at hl 0 rfl) ?_
      refine mg hx hb hw4 hown hK hP 20 (by decide) (v := .int (nI n.2.2)) rfl (hts (.fieldLink RX4 113 "BackupPowerModel" "generatorMany" "I") (by decide +kernel)) dX4_fromGeneratorsNow_6 ?_
      refine lv_icmp_ge (tgt := 39) hx hb dX4_fromGeneratorsNow_9 (by decide) (fun c9 => ?_) (fun c9 => ?_)
      · have c9 : n.2.2 ≤ k4 := (nI_leI (a := n.2.2) (b := k4) (by omega) (by omega)).mp c9
        rewrite [if_pos c9] at h
        refine lv_iload_n hx hb dX4_fromGeneratorsNow_39 rfl (lv_at hl 1 rfl) ?_
        exact gRi (wf := MW G.2 b n) (S := S4) hx hb hr hlocks hP hS h dX4_fromGeneratorsNow_40
      · have c9 : ¬ n.2.2 ≤ k4 := fun z => c9 ((nI_leI (a := n.2.2) (b := k4) (by omega) (by omega)).mpr z)
        rewrite [if_neg c9] at h
        refine lv_iload_n hx hb dX4_fromGeneratorsNow_12 rfl (lv_at hl 1 rfl) ?_
        refine lv_aload_n hx hb dX4_fromGeneratorsNow_13 rfl (lv_at hl 0 rfl) ?_
        refine lv_iload_n hx hb dX4_fromGeneratorsNow_14 rfl (lv_at hl 2 rfl) ?_
        refine gcVz (wf := MW G.2 b n) (N := 27) (ad := b) (As := [.int (nI k4)]) (rest := [.int v1_4]) (S := S4) ⟨hx, hb, hml, hown, hts⟩ hK hP hS (c_X4_gives l G b ha n hn k4 (by omega) S4 _) (cwV 1 hts gX4_fromGeneratorsNow_X4_gives rfl rfl rfl (by decide +kernel) ⟨Nat.le_of_ble_eq_true rfl, Nat.le_of_ble_eq_true rfl⟩) (mrO hK hP) rfl hl.1 rfl (Nat.le_of_ble_eq_true rfl) dX4_fromGeneratorsNow_15 ⟨Nat.le_of_ble_eq_true rfl, Nat.le_of_ble_eq_true rfl⟩ (fun p15 H locs ep15 hbp15 hP hS => ?_)
        rewrite [← ep15] at h
        rewrite [f_X4_fromGeneratorsNow_c15] at h
        refine lv_if_eq (tgt := 30) hx hb dX4_fromGeneratorsNow_18 (by decide) (fun c18 => ?_) (fun c18 => ?_)
        · rewrite [if_pos c18] at h
          refine lv_iconst (v := 0) hx hb dX4_fromGeneratorsNow_30 (by decide) ?_
          exact J31 p15.2 v1_4 0 (by omega) h _ _ _ hP hS (lv_sub hl [0, 2] rfl)
        · rewrite [if_neg c18] at h
          refine lv_aload_n hx hb dX4_fromGeneratorsNow_21 rfl (lv_at hl 0 rfl) ?_
          refine mg hx hb hw4 hown hK hP 21 (by decide) (v := .ref (b 12)) rfl (hts (.fieldLink RX4 57 "BackupPowerModel" "strengths" "[I") (by decide +kernel)) dX4_fromGeneratorsNow_22 ?_
          refine lv_iload_n hx hb dX4_fromGeneratorsNow_25 rfl (lv_at hl 2 rfl) ?_
          refine mld hx hb hK hP 12 (by decide) (show k4 < 3 by omega) dX4_fromGeneratorsNow_26 ?_
          refine lv_goto (tgt := 31) hx hb dX4_fromGeneratorsNow_27 (by decide) ?_
          exact J31 p15.2 v1_4 (p15.2.2 12 k4) (by omega) h _ _ _ hP hS (lv_sub hl [0, 2] rfl)
  rewrite [f_X4_fromGeneratorsNow] at h
  refine lv_iconst (v := 0) hx hb dX4_fromGeneratorsNow_0 (by decide) ?_
  refine lv_istore_n (lv' := [(1, .int 0), (0, .ref (b 0))]) hx hb dX4_fromGeneratorsNow_1 rfl hl (by decide) rfl (fun ls hl => ?_)
  refine lv_iconst (v := 0) hx hb dX4_fromGeneratorsNow_2 (by decide) ?_
  refine lv_istore_n (lv' := [(2, .int 0), (1, .int 0), (0, .ref (b 0))]) hx hb dX4_fromGeneratorsNow_3 rfl hl (by decide) rfl (fun ls hl => ?_)
  exact L4 (n.2.2 + 1) 0 S 0 (by omega) (by omega) h _ _ _ hP hS (lv_sub hl [2, 1, 0] rfl)

def f_X4_fromBatteriesNow_c22 (n : Nat × Nat × Nat) (x1 : Nat) (K4 : Nat → MS → Int32 → Int32 × MS) (k4 : Nat) (v2_4 : Int32) (p22 : Int32 × MS) : Int32 × MS := (K4 (k4 + 1) p22.2 (v2_4 + p22.1))
def f_X4_fromBatteriesNow_h4 (n : Nat × Nat × Nat) (x1 : Nat) : Nat → Nat → MS → Int32 → Int32 × MS
  | 0, _, S4, _ => (0, S4)
  | q + 1, k4, S4, v2_4 => (if n.2.1 ≤ k4 then (v2_4, S4) else (f_X4_fromBatteriesNow_c22 n x1 (f_X4_fromBatteriesNow_h4 n x1 q) k4 v2_4 (f_X4_lesser n (S4.2 8 k4) (S4.2 x1 k4) S4)))
def f_X4_fromBatteriesNow (n : Nat × Nat × Nat) (x1 : Nat) (S : MS) : Int32 × MS := (f_X4_fromBatteriesNow_h4 n x1 (n.2.1 + 1) 0 S 0)
set_option maxHeartbeats 4000000 in
set_option maxRecDepth 100000 in
theorem c_X4_fromBatteriesNow (l : Launch) (G : WG) (b : Nat → Nat) (ha : wInj 27 b) (n : Nat × Nat × Nat) (hn : n.1 ≤ 10 ∧ n.2.1 ≤ 3 ∧ n.2.2 ≤ 3) (x1 : Nat) (hx1 : (x1 < 27 ∧ x1 ≠ 0 ∧ x1 ≠ 17)) (hrx1 : mLen x1 = 3) (S : MS) (sz : Nat) : gMi l yX4_fromBatteriesNow wsX4_fromBatteriesNow ({ frames := 1, cells := 0, slots := 0, locals := 21 }) G 27 b (MW G.2 b n) [.ref (b 0), .ref (b x1)] S sz (f_X4_fromBatteriesNow n x1 S) := by
  unfold gMi
  refine Met.ofW (cc := cX4_fromBatteriesNow) (maxL := 4) (ret := (some .int)) (by decide) rfl ?_
  intro p e s m args below meth c s₁ B hml hv
  obtain ⟨rfl, rfl, hP, hK⟩ := hv
  have hx := B.exec
  have hb := B.bytes
  have hr := B.returns
  have hts := atoms_spec (ws := wsX4_fromBatteriesNow) B.pre
  have hown : s.vm.findClass RX4 = some m.cls := findClass_of_methodNamed B.named
  have hlocks := B.notSynchronized
  have hS : va_S (wA 27 b s.heap.size) s.heap s.heap [] := va_S.rf
  have hw4 : ∀ w ∈ wsX40, w.before ([.ref (b 0), .ref (b x1)] : List Value).toArray s = true := fun w hw => hts w ((by decide +kernel : ∀ w ∈ wsX40, w ∈ wsX4_fromBatteriesNow) w hw)
  have hl := lv_entry ([.ref (b 0), .ref (b x1)]) (n := 4) (Nat.le_of_ble_eq_true rfl)
  rw [lg_entry_eq]
  generalize (lg_sl ([.ref (b 0), .ref (b x1)] : List Value) ++ List.replicate (4 - (lg_sl ([.ref (b 0), .ref (b x1)] : List Value)).length) Slot.unset).toArray = ls at hl ⊢
  have hl : lv_has ls 4 [(0, .ref (b 0)), (1, .ref (b x1))] := hl
  generalize hF : f_X4_fromBatteriesNow n x1 S = F
  have h : f_X4_fromBatteriesNow n x1 S = F := hF
  clear hF
  show W p l e ({ frames := 1, cells := 0, slots := 0, locals := 21 } : Room) s m ([.ref (b 0), .ref (b x1)] : List Value).toArray below meth c s.heap [] 0 0 (gQi below G (MW G.2 b n) 27 b F ([.ref (b 0), .ref (b x1)] : List Value).toArray s) (F0 m 0 ls [])
  have L4 : ∀ (q4 : Nat) (k4 : Nat) (S4 : MS) (v2_4 : Int32), k4 ≤ n.2.1 → n.2.1 < k4 + q4 → f_X4_fromBatteriesNow_h4 n x1 q4 k4 S4 v2_4 = F → ∀ (H : Heap) (locs : List Loc) (ls : Array Slot), wM G b n S4 H → va_S (wA 27 b s.heap.size) s.heap H locs → lv_has ls 4 [(0, .ref (b 0)), (1, .ref (b x1)), (2, .int v2_4), (3, .int (nI k4))] → W p l e ({ frames := 1, cells := 0, slots := 0, locals := 21 } : Room) s m ([.ref (b 0), .ref (b x1)] : List Value).toArray below meth c H locs 0 0 (gQi below G (MW G.2 b n) 27 b F ([.ref (b 0), .ref (b x1)] : List Value).toArray s) (F0 m 4 ls []) := by
    intro q4
    induction q4 with
    | zero => intro k4 S4 v2_4 hk4 hq4 h H locs ls hP hS hl; omega
    | succ q4 ih4 =>
      intro k4 S4 v2_4 hk4 hq4 h H locs ls hP hS hl
      rewrite [f_X4_fromBatteriesNow_h4] at h
      refine lv_iload_n hx hb dX4_fromBatteriesNow_4 rfl (lv_at hl 3 rfl) ?_
      refine lv_aload_n hx hb dX4_fromBatteriesNow_5 rfl (lv_at hl 0 rfl) ?_
      refine mg hx hb hw4 hown hK hP 13 (by decide) (v := .int (nI n.2.1)) rfl (hts (.fieldLink RX4 116 "BackupPowerModel" "batteryMany" "I") (by decide +kernel)) dX4_fromBatteriesNow_6 ?_
      refine lv_icmp_ge (tgt := 33) hx hb dX4_fromBatteriesNow_9 (by decide) (fun c9 => ?_) (fun c9 => ?_)
      · have c9 : n.2.1 ≤ k4 := (nI_leI (a := n.2.1) (b := k4) (by omega) (by omega)).mp c9
        rewrite [if_pos c9] at h
        refine lv_iload_n hx hb dX4_fromBatteriesNow_33 rfl (lv_at hl 2 rfl) ?_
        exact gRi (wf := MW G.2 b n) (S := S4) hx hb hr hlocks hP hS h dX4_fromBatteriesNow_34
      · have c9 : ¬ n.2.1 ≤ k4 := fun z => c9 ((nI_leI (a := n.2.1) (b := k4) (by omega) (by omega)).mpr z)
        rewrite [if_neg c9] at h
        refine lv_iload_n hx hb dX4_fromBatteriesNow_12 rfl (lv_at hl 2 rfl) ?_
        refine lv_aload_n hx hb dX4_fromBatteriesNow_13 rfl (lv_at hl 0 rfl) ?_
        refine mg hx hb hw4 hown hK hP 16 (by decide) (v := .ref (b 8)) rfl (hts (.fieldLink RX4 45 "BackupPowerModel" "rates" "[I") (by decide +kernel)) dX4_fromBatteriesNow_14 ?_
        refine lv_iload_n hx hb dX4_fromBatteriesNow_17 rfl (lv_at hl 3 rfl) ?_
        refine mld hx hb hK hP 8 (by decide) (show k4 < 3 by omega) dX4_fromBatteriesNow_18 ?_
        refine lv_aload_n hx hb dX4_fromBatteriesNow_19 rfl (lv_at hl 1 rfl) ?_
        refine lv_iload_n hx hb dX4_fromBatteriesNow_20 rfl (lv_at hl 3 rfl) ?_
        refine mld hx hb hK hP x1 hx1 (by omega) dX4_fromBatteriesNow_21 ?_
        refine gcSi (wf := MW G.2 b n) (N := 27) (ad := b) (As := [.int (S4.2 8 k4), .int (S4.2 x1 k4)]) (rest := [.int v2_4]) (S := S4) ⟨hx, hb, hml, hown, hts⟩ hK hP hS (c_X4_lesser l G b ha n hn (S4.2 8 k4) (S4.2 x1 k4) S4 _) (va_cwS 2 hts gX4_fromBatteriesNow_X4_lesser rfl rfl rfl (by decide +kernel) ⟨Nat.le_of_ble_eq_true rfl, Nat.le_of_ble_eq_true rfl⟩) rfl hl.1 rfl (Nat.le_of_ble_eq_true rfl) dX4_fromBatteriesNow_22 ⟨Nat.le_of_ble_eq_true rfl, Nat.le_of_ble_eq_true rfl⟩ (fun p22 H locs ep22 hP hS => ?_)
        rewrite [← ep22] at h
        rewrite [f_X4_fromBatteriesNow_c22] at h
        refine lv_iadd hx hb dX4_fromBatteriesNow_25 ?_
        refine lv_istore_n (lv' := [(2, .int (v2_4 + p22.1)), (0, .ref (b 0)), (1, .ref (b x1)), (3, .int (nI k4))]) hx hb dX4_fromBatteriesNow_26 rfl hl (by decide) rfl (fun ls hl => ?_)
        refine lv_iinc (k := 3) (v := nI (k4 + 1)) (lv' := [(3, .int (nI (k4 + 1))), (2, .int (v2_4 + p22.1)), (0, .ref (b 0)), (1, .ref (b x1))]) hx hb dX4_fromBatteriesNow_27 hl rfl (nI_inc _) (by decide) rfl (fun ls hl => ?_)
        refine lv_goto (tgt := 4) hx hb dX4_fromBatteriesNow_30 (by decide) ?_
        exact ih4 (k4 + 1) p22.2 (v2_4 + p22.1) (by omega) (by omega) h _ _ _ hP hS (lv_sub hl [2, 3, 1, 0] rfl)
  rewrite [f_X4_fromBatteriesNow] at h
  refine lv_iconst (v := 0) hx hb dX4_fromBatteriesNow_0 (by decide) ?_
  refine lv_istore_n (lv' := [(2, .int 0), (0, .ref (b 0)), (1, .ref (b x1))]) hx hb dX4_fromBatteriesNow_1 rfl hl (by decide) rfl (fun ls hl => ?_)
  refine lv_iconst (v := 0) hx hb dX4_fromBatteriesNow_2 (by decide) ?_
  refine lv_istore_n (lv' := [(3, .int 0), (2, .int 0), (0, .ref (b 0)), (1, .ref (b x1))]) hx hb dX4_fromBatteriesNow_3 rfl hl (by decide) rfl (fun ls hl => ?_)
  exact L4 (n.2.1 + 1) 0 S 0 (by omega) (by omega) h _ _ _ hP hS (lv_sub hl [2, 3, 1, 0] rfl)

def f_X4_needed_b33 (n : Nat × Nat × Nat) (K4 : Nat → MS → Int32 → Int32 × MS) (k4 : Nat) (S33 : MS) (s0_33 : Int32) (s1_33 : Int32) : Int32 × MS := (K4 (k4 + 1) S33 (s0_33 + s1_33))
def f_X4_needed_h4 (n : Nat × Nat × Nat) : Nat → Nat → MS → Int32 → Int32 × MS
  | 0, _, S4, _ => (0, S4)
  | q + 1, k4, S4, v1_4 => (if n.1 ≤ k4 then (v1_4, S4) else (if (S4.2 3 k4) = 1 then (f_X4_needed_b33 n (f_X4_needed_h4 n q) k4 S4 v1_4 (S4.2 2 k4)) else (f_X4_needed_b33 n (f_X4_needed_h4 n q) k4 S4 v1_4 0)))
def f_X4_needed (n : Nat × Nat × Nat) (S : MS) : Int32 × MS := (f_X4_needed_h4 n (n.1 + 1) 0 S 0)
set_option maxHeartbeats 4000000 in
set_option maxRecDepth 100000 in
theorem c_X4_needed (l : Launch) (G : WG) (b : Nat → Nat) (ha : wInj 27 b) (n : Nat × Nat × Nat) (hn : n.1 ≤ 10 ∧ n.2.1 ≤ 3 ∧ n.2.2 ≤ 3) (S : MS) (sz : Nat) : gMi l yX4_needed wsX4_needed ({ frames := 0, cells := 0, slots := 0, locals := 0 }) G 27 b (MW G.2 b n) [.ref (b 0)] S sz (f_X4_needed n S) := by
  unfold gMi
  refine Met.ofW (cc := cX4_needed) (maxL := 3) (ret := (some .int)) (by decide) rfl ?_
  intro p e s m args below meth c s₁ B hml hv
  obtain ⟨rfl, rfl, hP, hK⟩ := hv
  have hx := B.exec
  have hb := B.bytes
  have hr := B.returns
  have hts := atoms_spec (ws := wsX4_needed) B.pre
  have hown : s.vm.findClass RX4 = some m.cls := findClass_of_methodNamed B.named
  have hlocks := B.notSynchronized
  have hS : va_S (wA 27 b s.heap.size) s.heap s.heap [] := va_S.rf
  have hw4 : ∀ w ∈ wsX40, w.before ([.ref (b 0)] : List Value).toArray s = true := fun w hw => hts w ((by decide +kernel : ∀ w ∈ wsX40, w ∈ wsX4_needed) w hw)
  have hl := lv_entry ([.ref (b 0)]) (n := 3) (Nat.le_of_ble_eq_true rfl)
  rw [lg_entry_eq]
  generalize (lg_sl ([.ref (b 0)] : List Value) ++ List.replicate (3 - (lg_sl ([.ref (b 0)] : List Value)).length) Slot.unset).toArray = ls at hl ⊢
  have hl : lv_has ls 3 [(0, .ref (b 0))] := hl
  generalize hF : f_X4_needed n S = F
  have h : f_X4_needed n S = F := hF
  clear hF
  show W p l e ({ frames := 0, cells := 0, slots := 0, locals := 0 } : Room) s m ([.ref (b 0)] : List Value).toArray below meth c s.heap [] 0 0 (gQi below G (MW G.2 b n) 27 b F ([.ref (b 0)] : List Value).toArray s) (F0 m 0 ls [])
  have L4 : ∀ (q4 : Nat) (k4 : Nat) (S4 : MS) (v1_4 : Int32), k4 ≤ n.1 → n.1 < k4 + q4 → f_X4_needed_h4 n q4 k4 S4 v1_4 = F → ∀ (H : Heap) (locs : List Loc) (ls : Array Slot), wM G b n S4 H → va_S (wA 27 b s.heap.size) s.heap H locs → lv_has ls 3 [(0, .ref (b 0)), (1, .int v1_4), (2, .int (nI k4))] → W p l e ({ frames := 0, cells := 0, slots := 0, locals := 0 } : Room) s m ([.ref (b 0)] : List Value).toArray below meth c H locs 0 0 (gQi below G (MW G.2 b n) 27 b F ([.ref (b 0)] : List Value).toArray s) (F0 m 4 ls []) := by
    intro q4
    induction q4 with
    | zero => intro k4 S4 v1_4 hk4 hq4 h H locs ls hP hS hl; omega
    | succ q4 ih4 =>
      intro k4 S4 v1_4 hk4 hq4 h H locs ls hP hS hl
      have J33 : ∀ (S33 : MS) (s0_33 : Int32) (s1_33 : Int32), (k4 < n.1) → f_X4_needed_b33 n (f_X4_needed_h4 n q4) k4 S33 s0_33 s1_33 = F → ∀ (H : Heap) (locs : List Loc) (ls : Array Slot), wM G b n S33 H → va_S (wA 27 b s.heap.size) s.heap H locs → lv_has ls 3 [(0, .ref (b 0)), (2, .int (nI k4))] → W p l e ({ frames := 0, cells := 0, slots := 0, locals := 0 } : Room) s m ([.ref (b 0)] : List Value).toArray below meth c H locs 0 0 (gQi below G (MW G.2 b n) 27 b F ([.ref (b 0)] : List Value).toArray s) (F0 m 33 ls [.int s1_33, .int s0_33]) := by
        intro S33 s0_33 s1_33 hkb4 h H locs ls hP hS hl
        rewrite [f_X4_needed_b33] at h
        refine lv_iadd hx hb dX4_needed_33 ?_
        refine lv_istore_n (lv' := [(1, .int (s0_33 + s1_33)), (0, .ref (b 0)), (2, .int (nI k4))]) hx hb dX4_needed_34 rfl hl (by decide) rfl (fun ls hl => ?_)
        refine lv_iinc (k := 2) (v := nI (k4 + 1)) (lv' := [(2, .int (nI (k4 + 1))), (1, .int (s0_33 + s1_33)), (0, .ref (b 0))]) hx hb dX4_needed_35 hl rfl (nI_inc _) (by decide) rfl (fun ls hl => ?_)
        refine lv_goto (tgt := 4) hx hb dX4_needed_38 (by decide) ?_
        exact ih4 (k4 + 1) S33 (s0_33 + s1_33) (by omega) (by omega) h _ _ _ hP hS (lv_sub hl [2, 1, 0] rfl)
      rewrite [f_X4_needed_h4] at h
      refine lv_iload_n hx hb dX4_needed_4 rfl (lv_at hl 2 rfl) ?_
      refine lv_aload_n hx hb dX4_needed_5 rfl (lv_at hl 0 rfl) ?_
      refine mg hx hb hw4 hown hK hP 7 (by decide) (v := .int (nI n.1)) rfl (hts (.fieldLink RX4 106 "BackupPowerModel" "loadMany" "I") (by decide +kernel)) dX4_needed_6 ?_
      refine lv_icmp_ge (tgt := 41) hx hb dX4_needed_9 (by decide) (fun c9 => ?_) (fun c9 => ?_)
      · have c9 : n.1 ≤ k4 := (nI_leI (a := n.1) (b := k4) (by omega) (by omega)).mp c9
        rewrite [if_pos c9] at h
        refine lv_iload_n hx hb dX4_needed_41 rfl (lv_at hl 1 rfl) ?_
        exact gRi (wf := MW G.2 b n) (S := S4) hx hb hr hlocks hP hS h dX4_needed_42
      · have c9 : ¬ n.1 ≤ k4 := fun z => c9 ((nI_leI (a := n.1) (b := k4) (by omega) (by omega)).mpr z)
        rewrite [if_neg c9] at h
        refine lv_iload_n hx hb dX4_needed_12 rfl (lv_at hl 1 rfl) ?_
        refine lv_aload_n hx hb dX4_needed_13 rfl (lv_at hl 0 rfl) ?_
        refine mg hx hb hw4 hown hK hP 10 (by decide) (v := .ref (b 3)) rfl (hts (.fieldLink RX4 30 "BackupPowerModel" "states" "[I") (by decide +kernel)) dX4_needed_14 ?_
        refine lv_iload_n hx hb dX4_needed_17 rfl (lv_at hl 2 rfl) ?_
        refine mld hx hb hK hP 3 (by decide) (show k4 < 10 by omega) dX4_needed_18 ?_
        refine lv_iconst (v := 1) hx hb dX4_needed_19 (by decide) ?_
        refine lv_icmp_ne (tgt := 32) hx hb dX4_needed_20 (by decide) (fun c20 => ?_) (fun c20 => ?_)
        · rewrite [if_neg c20] at h
          refine lv_iconst (v := 0) hx hb dX4_needed_32 (by decide) ?_
          exact J33 S4 v1_4 0 (by omega) h _ _ _ hP hS (lv_sub hl [0, 2] rfl)
        · rewrite [if_pos c20] at h
          refine lv_aload_n hx hb dX4_needed_23 rfl (lv_at hl 0 rfl) ?_
          refine mg hx hb hw4 hown hK hP 9 (by decide) (v := .ref (b 2)) rfl (hts (.fieldLink RX4 27 "BackupPowerModel" "powers" "[I") (by decide +kernel)) dX4_needed_24 ?_
          refine lv_iload_n hx hb dX4_needed_27 rfl (lv_at hl 2 rfl) ?_
          refine mld hx hb hK hP 2 (by decide) (show k4 < 10 by omega) dX4_needed_28 ?_
          refine lv_goto (tgt := 33) hx hb dX4_needed_29 (by decide) ?_
          exact J33 S4 v1_4 (S4.2 2 k4) (by omega) h _ _ _ hP hS (lv_sub hl [0, 2] rfl)
  rewrite [f_X4_needed] at h
  refine lv_iconst (v := 0) hx hb dX4_needed_0 (by decide) ?_
  refine lv_istore_n (lv' := [(1, .int 0), (0, .ref (b 0))]) hx hb dX4_needed_1 rfl hl (by decide) rfl (fun ls hl => ?_)
  refine lv_iconst (v := 0) hx hb dX4_needed_2 (by decide) ?_
  refine lv_istore_n (lv' := [(2, .int 0), (1, .int 0), (0, .ref (b 0))]) hx hb dX4_needed_3 rfl hl (by decide) rfl (fun ls hl => ?_)
  exact L4 (n.1 + 1) 0 S 0 (by omega) (by omega) h _ _ _ hP hS (lv_sub hl [2, 1, 0] rfl)

def f_X4_isLess_b73 (n : Nat × Nat × Nat) (x1 : Nat) (x2 : Nat) (S73 : MS) (s0_73 : Int32) : Int32 × MS := (s0_73, S73)
def f_X4_isLess (n : Nat × Nat × Nat) (x1 : Nat) (x2 : Nat) (S : MS) : Int32 × MS := (if ((S.2 1 x1) - (S.2 1 x2)) = 0 then (if ((S.2 2 x1) - (S.2 2 x2)) = 0 then (if x2 ≤ x1 then (f_X4_isLess_b73 n x1 x2 S 0) else (f_X4_isLess_b73 n x1 x2 S 1)) else (if 0 ≤ ((S.2 2 x1) - (S.2 2 x2)) then (f_X4_isLess_b73 n x1 x2 S 0) else (f_X4_isLess_b73 n x1 x2 S 1))) else (if 0 ≤ ((S.2 1 x1) - (S.2 1 x2)) then (f_X4_isLess_b73 n x1 x2 S 0) else (f_X4_isLess_b73 n x1 x2 S 1)))
set_option maxHeartbeats 4000000 in
set_option maxRecDepth 100000 in
theorem c_X4_isLess (l : Launch) (G : WG) (b : Nat → Nat) (ha : wInj 27 b) (n : Nat × Nat × Nat) (hn : n.1 ≤ 10 ∧ n.2.1 ≤ 3 ∧ n.2.2 ≤ 3) (x1 : Nat) (hx1 : x1 < 10) (x2 : Nat) (hx2 : x2 < 10) (S : MS) (sz : Nat) : gMz l yX4_isLess wsX4_isLess ({ frames := 0, cells := 0, slots := 0, locals := 0 }) G 27 b (MW G.2 b n) [.ref (b 0), .int (nI x1), .int (nI x2)] S sz (f_X4_isLess n x1 x2 S) := by
  unfold gMz
  refine Met.ofW (cc := cX4_isLess) (maxL := 5) (ret := (some .boolean)) (by decide) rfl ?_
  intro p e s m args below meth c s₁ B hml hv
  obtain ⟨rfl, rfl, hP, hK⟩ := hv
  have hx := B.exec
  have hb := B.bytes
  have hr := B.returns
  have hts := atoms_spec (ws := wsX4_isLess) B.pre
  have hown : s.vm.findClass RX4 = some m.cls := findClass_of_methodNamed B.named
  have hlocks := B.notSynchronized
  have hS : va_S (wA 27 b s.heap.size) s.heap s.heap [] := va_S.rf
  have hw4 : ∀ w ∈ wsX40, w.before ([.ref (b 0), .int (nI x1), .int (nI x2)] : List Value).toArray s = true := fun w hw => hts w ((by decide +kernel : ∀ w ∈ wsX40, w ∈ wsX4_isLess) w hw)
  have hl := lv_entry ([.ref (b 0), .int (nI x1), .int (nI x2)]) (n := 5) (Nat.le_of_ble_eq_true rfl)
  rw [lg_entry_eq]
  generalize (lg_sl ([.ref (b 0), .int (nI x1), .int (nI x2)] : List Value) ++ List.replicate (5 - (lg_sl ([.ref (b 0), .int (nI x1), .int (nI x2)] : List Value)).length) Slot.unset).toArray = ls at hl ⊢
  have hl : lv_has ls 5 [(0, .ref (b 0)), (1, .int (nI x1)), (2, .int (nI x2))] := hl
  generalize hF : f_X4_isLess n x1 x2 S = F
  have h : f_X4_isLess n x1 x2 S = F := hF
  clear hF
  show W p l e ({ frames := 0, cells := 0, slots := 0, locals := 0 } : Room) s m ([.ref (b 0), .int (nI x1), .int (nI x2)] : List Value).toArray below meth c s.heap [] 0 0 (gQz below G (MW G.2 b n) 27 b F ([.ref (b 0), .int (nI x1), .int (nI x2)] : List Value).toArray s) (F0 m 0 ls [])
  have J73 : ∀ (S73 : MS) (s0_73 : Int32), (isB s0_73) → f_X4_isLess_b73 n x1 x2 S73 s0_73 = F → ∀ (H : Heap) (locs : List Loc) (ls : Array Slot), wM G b n S73 H → va_S (wA 27 b s.heap.size) s.heap H locs → lv_has ls 5 [] → W p l e ({ frames := 0, cells := 0, slots := 0, locals := 0 } : Room) s m ([.ref (b 0), .int (nI x1), .int (nI x2)] : List Value).toArray below meth c H locs 0 0 (gQz below G (MW G.2 b n) 27 b F ([.ref (b 0), .int (nI x1), .int (nI x2)] : List Value).toArray s) (F0 m 73 ls [.int s0_73]) := by
    intro S73 s0_73 hbs0_73 h H locs ls hP hS hl
    rewrite [f_X4_isLess_b73] at h
    exact gRz (wf := MW G.2 b n) (S := S73) hx hb hr hlocks hbs0_73 hP hS h dX4_isLess_73
  rewrite [f_X4_isLess] at h
  refine lv_aload_n hx hb dX4_isLess_0 rfl (lv_at hl 0 rfl) ?_
  refine mg hx hb hw4 hown hK hP 8 (by decide) (v := .ref (b 1)) rfl (hts (.fieldLink RX4 23 "BackupPowerModel" "ranks" "[I") (by decide +kernel)) dX4_isLess_1 ?_
  refine lv_iload_n hx hb dX4_isLess_4 rfl (lv_at hl 1 rfl) ?_
  refine mld hx hb hK hP 1 (by decide) (show x1 < 10 by omega) dX4_isLess_5 ?_
  refine lv_aload_n hx hb dX4_isLess_6 rfl (lv_at hl 0 rfl) ?_
  refine mg hx hb hw4 hown hK hP 8 (by decide) (v := .ref (b 1)) rfl (hts (.fieldLink RX4 23 "BackupPowerModel" "ranks" "[I") (by decide +kernel)) dX4_isLess_7 ?_
  refine lv_iload_n hx hb dX4_isLess_10 rfl (lv_at hl 2 rfl) ?_
  refine mld hx hb hK hP 1 (by decide) (show x2 < 10 by omega) dX4_isLess_11 ?_
  refine lv_isub hx hb dX4_isLess_12 ?_
  refine lv_istore_n (lv' := [(3, .int ((S.2 1 x1) - (S.2 1 x2))), (0, .ref (b 0)), (1, .int (nI x1)), (2, .int (nI x2))]) hx hb dX4_isLess_13 rfl hl (by decide) rfl (fun ls hl => ?_)
  refine lv_aload_n hx hb dX4_isLess_14 rfl (lv_at hl 1 rfl) ?_
  refine mg hx hb hw4 hown hK hP 9 (by decide) (v := .ref (b 2)) rfl (hts (.fieldLink RX4 27 "BackupPowerModel" "powers" "[I") (by decide +kernel)) dX4_isLess_15 ?_
  refine lv_iload_n hx hb dX4_isLess_18 rfl (lv_at hl 2 rfl) ?_
  refine mld hx hb hK hP 2 (by decide) (show x1 < 10 by omega) dX4_isLess_19 ?_
  refine lv_aload_n hx hb dX4_isLess_20 rfl (lv_at hl 1 rfl) ?_
  refine mg hx hb hw4 hown hK hP 9 (by decide) (v := .ref (b 2)) rfl (hts (.fieldLink RX4 27 "BackupPowerModel" "powers" "[I") (by decide +kernel)) dX4_isLess_21 ?_
  refine lv_iload_n hx hb dX4_isLess_24 rfl (lv_at hl 3 rfl) ?_
  refine mld hx hb hK hP 2 (by decide) (show x2 < 10 by omega) dX4_isLess_25 ?_
  refine lv_isub hx hb dX4_isLess_26 ?_
  refine lv_istore (lv' := [(4, .int ((S.2 2 x1) - (S.2 2 x2))), (3, .int ((S.2 1 x1) - (S.2 1 x2))), (0, .ref (b 0)), (1, .int (nI x1)), (2, .int (nI x2))]) hx hb dX4_isLess_27 hl (by decide) rfl (fun ls hl => ?_)
  refine lv_iload_n hx hb dX4_isLess_29 rfl (lv_at hl 1 rfl) ?_
  refine lv_if_eq (tgt := 45) hx hb dX4_isLess_30 (by decide) (fun c30 => ?_) (fun c30 => ?_)
  · rewrite [if_pos c30] at h
    refine lv_iload hx hb dX4_isLess_45 (lv_at hl 0 rfl) ?_
    refine lv_if_eq (tgt := 63) hx hb dX4_isLess_47 (by decide) (fun c47 => ?_) (fun c47 => ?_)
    · rewrite [if_pos c47] at h
      refine lv_iload_n hx hb dX4_isLess_63 rfl (lv_at hl 3 rfl) ?_
      refine lv_iload_n hx hb dX4_isLess_64 rfl (lv_at hl 4 rfl) ?_
      refine lv_icmp_ge (tgt := 72) hx hb dX4_isLess_65 (by decide) (fun c65 => ?_) (fun c65 => ?_)
      · have c65 : x2 ≤ x1 := (nI_leI (a := x2) (b := x1) (by omega) (by omega)).mp c65
        rewrite [if_pos c65] at h
        refine lv_iconst (v := 0) hx hb dX4_isLess_72 (by decide) ?_
        exact J73 S 0 isB_0 h _ _ _ hP hS (lv_sub hl [] rfl)
      · have c65 : ¬ x2 ≤ x1 := fun z => c65 ((nI_leI (a := x2) (b := x1) (by omega) (by omega)).mpr z)
        rewrite [if_neg c65] at h
        refine lv_iconst (v := 1) hx hb dX4_isLess_68 (by decide) ?_
        refine lv_goto (tgt := 73) hx hb dX4_isLess_69 (by decide) ?_
        exact J73 S 1 isB_1 h _ _ _ hP hS (lv_sub hl [] rfl)
    · rewrite [if_neg c47] at h
      refine lv_iload hx hb dX4_isLess_50 (lv_at hl 0 rfl) ?_
      refine lv_if_ge (tgt := 59) hx hb dX4_isLess_52 (by decide) (fun c52 => ?_) (fun c52 => ?_)
      · rewrite [if_pos c52] at h
        refine lv_iconst (v := 0) hx hb dX4_isLess_59 (by decide) ?_
        refine lv_goto (tgt := 73) hx hb dX4_isLess_60 (by decide) ?_
        exact J73 S 0 isB_0 h _ _ _ hP hS (lv_sub hl [] rfl)
      · rewrite [if_neg c52] at h
        refine lv_iconst (v := 1) hx hb dX4_isLess_55 (by decide) ?_
        refine lv_goto (tgt := 73) hx hb dX4_isLess_56 (by decide) ?_
        exact J73 S 1 isB_1 h _ _ _ hP hS (lv_sub hl [] rfl)
  · rewrite [if_neg c30] at h
    refine lv_iload_n hx hb dX4_isLess_33 rfl (lv_at hl 1 rfl) ?_
    refine lv_if_ge (tgt := 41) hx hb dX4_isLess_34 (by decide) (fun c34 => ?_) (fun c34 => ?_)
    · rewrite [if_pos c34] at h
      refine lv_iconst (v := 0) hx hb dX4_isLess_41 (by decide) ?_
      refine lv_goto (tgt := 73) hx hb dX4_isLess_42 (by decide) ?_
      exact J73 S 0 isB_0 h _ _ _ hP hS (lv_sub hl [] rfl)
    · rewrite [if_neg c34] at h
      refine lv_iconst (v := 1) hx hb dX4_isLess_37 (by decide) ?_
      refine lv_goto (tgt := 73) hx hb dX4_isLess_38 (by decide) ?_
      exact J73 S 1 isB_1 h _ _ _ hP hS (lv_sub hl [] rfl)

def f_X4_inOrder_b85 (n : Nat × Nat × Nat) (x1 : Int32) (x2 : Int32) (x3 : Int32) (K6 : Nat → MS → Int32 → Int32 × MS) (K21 : Nat → MS → Int32 → Int32 → Int32 × MS) (k6 : Nat) (k21 : Nat) (S85 : MS) (v4_85 : Int32) (s0_85 : Int32) (s1_85 : Int32) : Int32 × MS := (K21 (k21 + 1) S85 v4_85 (s0_85 + s1_85))
def f_X4_inOrder_b84 (n : Nat × Nat × Nat) (x1 : Int32) (x2 : Int32) (x3 : Int32) (K6 : Nat → MS → Int32 → Int32 × MS) (K21 : Nat → MS → Int32 → Int32 → Int32 × MS) (k6 : Nat) (k21 : Nat) (S84 : MS) (v4_84 : Int32) (s0_84 : Int32) : Int32 × MS := (f_X4_inOrder_b85 n x1 x2 x3 K6 K21 k6 k21 S84 v4_84 s0_84 0)
def f_X4_inOrder_b53 (n : Nat × Nat × Nat) (x1 : Int32) (x2 : Int32) (x3 : Int32) (K6 : Nat → MS → Int32 → Int32 × MS) (K21 : Nat → MS → Int32 → Int32 → Int32 × MS) (k6 : Nat) (k21 : Nat) (S53 : MS) (v4_53 : Int32) (v6_53 : Int32) (s0_53 : Int32) : Int32 × MS := (if (S53.2 3 k21) = x1 then (if k21 = k6 then (f_X4_inOrder_b84 n x1 x2 x3 K6 K21 k6 k21 S53 v4_53 v6_53) else (if s0_53 = 0 then (f_X4_inOrder_b84 n x1 x2 x3 K6 K21 k6 k21 S53 v4_53 v6_53) else (f_X4_inOrder_b85 n x1 x2 x3 K6 K21 k6 k21 S53 v4_53 v6_53 1))) else (f_X4_inOrder_b84 n x1 x2 x3 K6 K21 k6 k21 S53 v4_53 v6_53))
def f_X4_inOrder_b118 (n : Nat × Nat × Nat) (x1 : Int32) (x2 : Int32) (x3 : Int32) (K6 : Nat → MS → Int32 → Int32 × MS) (k6 : Nat) (S118 : MS) (s0_118 : Int32) : Int32 × MS := (K6 (k6 + 1) S118 s0_118)
def f_X4_inOrder_b116 (n : Nat × Nat × Nat) (x1 : Int32) (x2 : Int32) (x3 : Int32) (K6 : Nat → MS → Int32 → Int32 × MS) (k6 : Nat) (S116 : MS) (v4_116 : Int32) : Int32 × MS := (f_X4_inOrder_b118 n x1 x2 x3 K6 k6 S116 v4_116)
def f_X4_inOrder_c50 (n : Nat × Nat × Nat) (x1 : Int32) (x2 : Int32) (x3 : Int32) (K6 : Nat → MS → Int32 → Int32 × MS) (K21 : Nat → MS → Int32 → Int32 → Int32 × MS) (k6 : Nat) (k21 : Nat) (v4_21 : Int32) (v6_21 : Int32) (p50 : Int32 × MS) : Int32 × MS := (f_X4_inOrder_b53 n x1 x2 x3 K6 K21 k6 k21 p50.2 v4_21 v6_21 p50.1)
def f_X4_inOrder_c39 (n : Nat × Nat × Nat) (x1 : Int32) (x2 : Int32) (x3 : Int32) (K6 : Nat → MS → Int32 → Int32 × MS) (K21 : Nat → MS → Int32 → Int32 → Int32 × MS) (k6 : Nat) (k21 : Nat) (v4_21 : Int32) (v6_21 : Int32) (p39 : Int32 × MS) : Int32 × MS := (f_X4_inOrder_b53 n x1 x2 x3 K6 K21 k6 k21 p39.2 v4_21 v6_21 p39.1)
def f_X4_inOrder_h21 (n : Nat × Nat × Nat) (x1 : Int32) (x2 : Int32) (x3 : Int32) (K6 : Nat → MS → Int32 → Int32 × MS) (k6 : Nat) : Nat → Nat → MS → Int32 → Int32 → Int32 × MS
  | 0, _, S21, _, _ => (0, S21)
  | q + 1, k21, S21, v4_21, v6_21 => (if n.1 ≤ k21 then (if (S21.2 3 k6) = x1 then (if v6_21 = x2 then (f_X4_inOrder_b118 n x1 x2 x3 K6 k6 S21 (nI k6)) else (f_X4_inOrder_b116 n x1 x2 x3 K6 k6 S21 v4_21)) else (f_X4_inOrder_b116 n x1 x2 x3 K6 k6 S21 v4_21)) else (if x3 = 0 then (f_X4_inOrder_c50 n x1 x2 x3 K6 (f_X4_inOrder_h21 n x1 x2 x3 K6 k6 q) k6 k21 v4_21 v6_21 (f_X4_isLess n k6 k21 S21)) else (f_X4_inOrder_c39 n x1 x2 x3 K6 (f_X4_inOrder_h21 n x1 x2 x3 K6 k6 q) k6 k21 v4_21 v6_21 (f_X4_isLess n k21 k6 S21))))
def f_X4_inOrder_h6 (n : Nat × Nat × Nat) (x1 : Int32) (x2 : Int32) (x3 : Int32) : Nat → Nat → MS → Int32 → Int32 × MS
  | 0, _, S6, _ => (0, S6)
  | q + 1, k6, S6, v4_6 => (if n.1 ≤ k6 then (v4_6, S6) else (f_X4_inOrder_h21 n x1 x2 x3 (f_X4_inOrder_h6 n x1 x2 x3 q) k6 (n.1 + 1) 0 S6 v4_6 0))
def f_X4_inOrder (n : Nat × Nat × Nat) (x1 : Int32) (x2 : Int32) (x3 : Int32) (S : MS) : Int32 × MS := (f_X4_inOrder_h6 n x1 x2 x3 (n.1 + 1) 0 S (-1))
set_option maxHeartbeats 4000000 in
set_option maxRecDepth 100000 in
theorem c_X4_inOrder (l : Launch) (G : WG) (b : Nat → Nat) (ha : wInj 27 b) (n : Nat × Nat × Nat) (hn : n.1 ≤ 10 ∧ n.2.1 ≤ 3 ∧ n.2.2 ≤ 3) (x1 : Int32) (x2 : Int32) (x3 : Int32) (S : MS) (sz : Nat) : gMi l yX4_inOrder wsX4_inOrder ({ frames := 1, cells := 0, slots := 0, locals := 24 }) G 27 b (MW G.2 b n) [.ref (b 0), .int x1, .int x2, .int x3] S sz (f_X4_inOrder n x1 x2 x3 S) := by
  unfold gMi
  refine Met.ofW (cc := cX4_inOrder) (maxL := 9) (ret := (some .int)) (by decide) rfl ?_
  intro p e s m args below meth c s₁ B hml hv
  obtain ⟨rfl, rfl, hP, hK⟩ := hv
  have hx := B.exec
  have hb := B.bytes
  have hr := B.returns
  have hts := atoms_spec (ws := wsX4_inOrder) B.pre
  have hown : s.vm.findClass RX4 = some m.cls := findClass_of_methodNamed B.named
  have hlocks := B.notSynchronized
  have hS : va_S (wA 27 b s.heap.size) s.heap s.heap [] := va_S.rf
  have hw4 : ∀ w ∈ wsX40, w.before ([.ref (b 0), .int x1, .int x2, .int x3] : List Value).toArray s = true := fun w hw => hts w ((by decide +kernel : ∀ w ∈ wsX40, w ∈ wsX4_inOrder) w hw)
  have hl := lv_entry ([.ref (b 0), .int x1, .int x2, .int x3]) (n := 9) (Nat.le_of_ble_eq_true rfl)
  rw [lg_entry_eq]
  generalize (lg_sl ([.ref (b 0), .int x1, .int x2, .int x3] : List Value) ++ List.replicate (9 - (lg_sl ([.ref (b 0), .int x1, .int x2, .int x3] : List Value)).length) Slot.unset).toArray = ls at hl ⊢
  have hl : lv_has ls 9 [(0, .ref (b 0)), (1, .int x1), (2, .int x2), (3, .int x3)] := hl
  generalize hF : f_X4_inOrder n x1 x2 x3 S = F
  have h : f_X4_inOrder n x1 x2 x3 S = F := hF
  clear hF
  show W p l e ({ frames := 1, cells := 0, slots := 0, locals := 24 } : Room) s m ([.ref (b 0), .int x1, .int x2, .int x3] : List Value).toArray below meth c s.heap [] 0 0 (gQi below G (MW G.2 b n) 27 b F ([.ref (b 0), .int x1, .int x2, .int x3] : List Value).toArray s) (F0 m 0 ls [])
  have L6 : ∀ (q6 : Nat) (k6 : Nat) (S6 : MS) (v4_6 : Int32), k6 ≤ n.1 → n.1 < k6 + q6 → f_X4_inOrder_h6 n x1 x2 x3 q6 k6 S6 v4_6 = F → ∀ (H : Heap) (locs : List Loc) (ls : Array Slot), wM G b n S6 H → va_S (wA 27 b s.heap.size) s.heap H locs → lv_has ls 9 [(0, .ref (b 0)), (1, .int x1), (2, .int x2), (3, .int x3), (4, .int v4_6), (5, .int (nI k6))] → W p l e ({ frames := 1, cells := 0, slots := 0, locals := 24 } : Room) s m ([.ref (b 0), .int x1, .int x2, .int x3] : List Value).toArray below meth c H locs 0 0 (gQi below G (MW G.2 b n) 27 b F ([.ref (b 0), .int x1, .int x2, .int x3] : List Value).toArray s) (F0 m 6 ls []) := by
    intro q6
    induction q6 with
    | zero => intro k6 S6 v4_6 hk6 hq6 h H locs ls hP hS hl; omega
    | succ q6 ih6 =>
      intro k6 S6 v4_6 hk6 hq6 h H locs ls hP hS hl
      have L21 : ∀ (q21 : Nat) (k21 : Nat) (S21 : MS) (v4_21 : Int32) (v6_21 : Int32), (k6 < n.1) → k21 ≤ n.1 → n.1 < k21 + q21 → f_X4_inOrder_h21 n x1 x2 x3 (f_X4_inOrder_h6 n x1 x2 x3 q6) k6 q21 k21 S21 v4_21 v6_21 = F → ∀ (H : Heap) (locs : List Loc) (ls : Array Slot), wM G b n S21 H → va_S (wA 27 b s.heap.size) s.heap H locs → lv_has ls 9 [(0, .ref (b 0)), (1, .int x1), (2, .int x2), (3, .int x3), (4, .int v4_21), (5, .int (nI k6)), (6, .int v6_21), (7, .int (nI k21))] → W p l e ({ frames := 1, cells := 0, slots := 0, locals := 24 } : Room) s m ([.ref (b 0), .int x1, .int x2, .int x3] : List Value).toArray below meth c H locs 0 0 (gQi below G (MW G.2 b n) 27 b F ([.ref (b 0), .int x1, .int x2, .int x3] : List Value).toArray s) (F0 m 21 ls []) := by
        intro q21
        induction q21 with
        | zero => intro k21 S21 v4_21 v6_21 hkb6 hk21 hq21 h H locs ls hP hS hl; omega
        | succ q21 ih21 =>
          intro k21 S21 v4_21 v6_21 hkb6 hk21 hq21 h H locs ls hP hS hl
          have J53 : ∀ (S53 : MS) (v4_53 : Int32) (v6_53 : Int32) (s0_53 : Int32), (isB s0_53) → (k21 < n.1) → (k6 < n.1) → f_X4_inOrder_b53 n x1 x2 x3 (f_X4_inOrder_h6 n x1 x2 x3 q6) (f_X4_inOrder_h21 n x1 x2 x3 (f_X4_inOrder_h6 n x1 x2 x3 q6) k6 q21) k6 k21 S53 v4_53 v6_53 s0_53 = F → ∀ (H : Heap) (locs : List Loc) (ls : Array Slot), wM G b n S53 H → va_S (wA 27 b s.heap.size) s.heap H locs → lv_has ls 9 [(0, .ref (b 0)), (1, .int x1), (2, .int x2), (3, .int x3), (4, .int v4_53), (5, .int (nI k6)), (6, .int v6_53), (7, .int (nI k21))] → W p l e ({ frames := 1, cells := 0, slots := 0, locals := 24 } : Room) s m ([.ref (b 0), .int x1, .int x2, .int x3] : List Value).toArray below meth c H locs 0 0 (gQi below G (MW G.2 b n) 27 b F ([.ref (b 0), .int x1, .int x2, .int x3] : List Value).toArray s) (F0 m 53 ls [.int s0_53]) := by
            intro S53 v4_53 v6_53 s0_53 hbs0_53 hkb21 hkb6 h H locs ls hP hS hl
            have J85 : ∀ (S85 : MS) (v4_85 : Int32) (s0_85 : Int32) (s1_85 : Int32), (isB s1_85) → (k21 < n.1) → (k6 < n.1) → f_X4_inOrder_b85 n x1 x2 x3 (f_X4_inOrder_h6 n x1 x2 x3 q6) (f_X4_inOrder_h21 n x1 x2 x3 (f_X4_inOrder_h6 n x1 x2 x3 q6) k6 q21) k6 k21 S85 v4_85 s0_85 s1_85 = F → ∀ (H : Heap) (locs : List Loc) (ls : Array Slot), wM G b n S85 H → va_S (wA 27 b s.heap.size) s.heap H locs → lv_has ls 9 [(0, .ref (b 0)), (1, .int x1), (2, .int x2), (3, .int x3), (4, .int v4_85), (5, .int (nI k6)), (7, .int (nI k21))] → W p l e ({ frames := 1, cells := 0, slots := 0, locals := 24 } : Room) s m ([.ref (b 0), .int x1, .int x2, .int x3] : List Value).toArray below meth c H locs 0 0 (gQi below G (MW G.2 b n) 27 b F ([.ref (b 0), .int x1, .int x2, .int x3] : List Value).toArray s) (F0 m 85 ls [.int s1_85, .int s0_85]) := by
              intro S85 v4_85 s0_85 s1_85 hbs1_85 hkb21 hkb6 h H locs ls hP hS hl
              rewrite [f_X4_inOrder_b85] at h
              refine lv_iadd hx hb dX4_inOrder_85 ?_
              refine lv_istore (lv' := [(6, .int (s0_85 + s1_85)), (0, .ref (b 0)), (1, .int x1), (2, .int x2), (3, .int x3), (4, .int v4_85), (5, .int (nI k6)), (7, .int (nI k21))]) hx hb dX4_inOrder_86 hl (by decide) rfl (fun ls hl => ?_)
              refine lv_iinc (k := 7) (v := nI (k21 + 1)) (lv' := [(7, .int (nI (k21 + 1))), (6, .int (s0_85 + s1_85)), (0, .ref (b 0)), (1, .int x1), (2, .int x2), (3, .int x3), (4, .int v4_85), (5, .int (nI k6))]) hx hb dX4_inOrder_88 hl rfl (nI_inc _) (by decide) rfl (fun ls hl => ?_)
              refine lv_goto (tgt := 21) hx hb dX4_inOrder_91 (by decide) ?_
              exact ih21 (k21 + 1) S85 v4_85 (s0_85 + s1_85) (by omega) (by omega) (by omega) h _ _ _ hP hS (lv_sub hl [2, 3, 4, 5, 6, 7, 1, 0] rfl)
            have J84 : ∀ (S84 : MS) (v4_84 : Int32) (s0_84 : Int32), (k21 < n.1) → (k6 < n.1) → f_X4_inOrder_b84 n x1 x2 x3 (f_X4_inOrder_h6 n x1 x2 x3 q6) (f_X4_inOrder_h21 n x1 x2 x3 (f_X4_inOrder_h6 n x1 x2 x3 q6) k6 q21) k6 k21 S84 v4_84 s0_84 = F → ∀ (H : Heap) (locs : List Loc) (ls : Array Slot), wM G b n S84 H → va_S (wA 27 b s.heap.size) s.heap H locs → lv_has ls 9 [(0, .ref (b 0)), (1, .int x1), (2, .int x2), (3, .int x3), (4, .int v4_84), (5, .int (nI k6)), (7, .int (nI k21))] → W p l e ({ frames := 1, cells := 0, slots := 0, locals := 24 } : Room) s m ([.ref (b 0), .int x1, .int x2, .int x3] : List Value).toArray below meth c H locs 0 0 (gQi below G (MW G.2 b n) 27 b F ([.ref (b 0), .int x1, .int x2, .int x3] : List Value).toArray s) (F0 m 84 ls [.int s0_84]) := by
              intro S84 v4_84 s0_84 hkb21 hkb6 h H locs ls hP hS hl
              rewrite [f_X4_inOrder_b84] at h
              refine lv_iconst (v := 0) hx hb dX4_inOrder_84 (by decide) ?_
              exact J85 S84 v4_84 s0_84 0 isB_0 (by omega) (by omega) h _ _ _ hP hS (lv_sub hl [0, 1, 2, 3, 4, 5, 6] rfl)
            rewrite [f_X4_inOrder_b53] at h
            refine lv_istore (lv' := [(8, .int s0_53), (0, .ref (b 0)), (1, .int x1), (2, .int x2), (3, .int x3), (4, .int v4_53), (5, .int (nI k6)), (6, .int v6_53), (7, .int (nI k21))]) hx hb dX4_inOrder_53 hl (by decide) rfl (fun ls hl => ?_)
            refine lv_iload hx hb dX4_inOrder_55 (lv_at hl 7 rfl) ?_
            refine lv_aload_n hx hb dX4_inOrder_57 rfl (lv_at hl 1 rfl) ?_
            refine mg hx hb hw4 hown hK hP 10 (by decide) (v := .ref (b 3)) rfl (hts (.fieldLink RX4 30 "BackupPowerModel" "states" "[I") (by decide +kernel)) dX4_inOrder_58 ?_
            refine lv_iload hx hb dX4_inOrder_61 (lv_at hl 8 rfl) ?_
            refine mld hx hb hK hP 3 (by decide) (show k21 < 10 by omega) dX4_inOrder_63 ?_
            refine lv_iload_n hx hb dX4_inOrder_64 rfl (lv_at hl 2 rfl) ?_
            refine lv_icmp_ne (tgt := 84) hx hb dX4_inOrder_65 (by decide) (fun c65 => ?_) (fun c65 => ?_)
            · rewrite [if_neg c65] at h
              exact J84 S53 v4_53 v6_53 (by omega) (by omega) h _ _ _ hP hS (lv_sub hl [1, 2, 3, 4, 5, 6, 8] rfl)
            · rewrite [if_pos c65] at h
              refine lv_iload hx hb dX4_inOrder_68 (lv_at hl 8 rfl) ?_
              refine lv_iload hx hb dX4_inOrder_70 (lv_at hl 6 rfl) ?_
              refine lv_icmp_eq (tgt := 84) hx hb dX4_inOrder_72 (by decide) (fun c72 => ?_) (fun c72 => ?_)
              · have c72 : k21 = k6 := (nI_eq (a := k21) (b := k6) (by omega) (by omega)).mp c72
                rewrite [if_pos c72] at h
                exact J84 S53 v4_53 v6_53 (by omega) (by omega) h _ _ _ hP hS (lv_sub hl [1, 2, 3, 4, 5, 6, 8] rfl)
              · have c72 : ¬ k21 = k6 := fun z => c72 ((nI_eq (a := k21) (b := k6) (by omega) (by omega)).mpr z)
                rewrite [if_neg c72] at h
                refine lv_iload hx hb dX4_inOrder_75 (lv_at hl 0 rfl) ?_
                refine lv_if_eq (tgt := 84) hx hb dX4_inOrder_77 (by decide) (fun c77 => ?_) (fun c77 => ?_)
                · rewrite [if_pos c77] at h
                  exact J84 S53 v4_53 v6_53 (by omega) (by omega) h _ _ _ hP hS (lv_sub hl [1, 2, 3, 4, 5, 6, 8] rfl)
                · rewrite [if_neg c77] at h
                  refine lv_iconst (v := 1) hx hb dX4_inOrder_80 (by decide) ?_
                  refine lv_goto (tgt := 85) hx hb dX4_inOrder_81 (by decide) ?_
                  exact J85 S53 v4_53 v6_53 1 isB_1 (by omega) (by omega) h _ _ _ hP hS (lv_sub hl [1, 2, 3, 4, 5, 6, 8] rfl)
          have J118 : ∀ (S118 : MS) (s0_118 : Int32), (k6 < n.1) → f_X4_inOrder_b118 n x1 x2 x3 (f_X4_inOrder_h6 n x1 x2 x3 q6) k6 S118 s0_118 = F → ∀ (H : Heap) (locs : List Loc) (ls : Array Slot), wM G b n S118 H → va_S (wA 27 b s.heap.size) s.heap H locs → lv_has ls 9 [(0, .ref (b 0)), (1, .int x1), (2, .int x2), (3, .int x3), (5, .int (nI k6))] → W p l e ({ frames := 1, cells := 0, slots := 0, locals := 24 } : Room) s m ([.ref (b 0), .int x1, .int x2, .int x3] : List Value).toArray below meth c H locs 0 0 (gQi below G (MW G.2 b n) 27 b F ([.ref (b 0), .int x1, .int x2, .int x3] : List Value).toArray s) (F0 m 118 ls [.int s0_118]) := by
            intro S118 s0_118 hkb6 h H locs ls hP hS hl
            rewrite [f_X4_inOrder_b118] at h
            refine lv_istore (lv' := [(4, .int s0_118), (0, .ref (b 0)), (1, .int x1), (2, .int x2), (3, .int x3), (5, .int (nI k6))]) hx hb dX4_inOrder_118 hl (by decide) rfl (fun ls hl => ?_)
            refine lv_iinc (k := 5) (v := nI (k6 + 1)) (lv' := [(5, .int (nI (k6 + 1))), (4, .int s0_118), (0, .ref (b 0)), (1, .int x1), (2, .int x2), (3, .int x3)]) hx hb dX4_inOrder_120 hl rfl (nI_inc _) (by decide) rfl (fun ls hl => ?_)
            refine lv_goto (tgt := 6) hx hb dX4_inOrder_123 (by decide) ?_
            exact ih6 (k6 + 1) S118 s0_118 (by omega) (by omega) h _ _ _ hP hS (lv_sub hl [2, 3, 4, 5, 1, 0] rfl)
          have J116 : ∀ (S116 : MS) (v4_116 : Int32), (k6 < n.1) → f_X4_inOrder_b116 n x1 x2 x3 (f_X4_inOrder_h6 n x1 x2 x3 q6) k6 S116 v4_116 = F → ∀ (H : Heap) (locs : List Loc) (ls : Array Slot), wM G b n S116 H → va_S (wA 27 b s.heap.size) s.heap H locs → lv_has ls 9 [(0, .ref (b 0)), (1, .int x1), (2, .int x2), (3, .int x3), (4, .int v4_116), (5, .int (nI k6))] → W p l e ({ frames := 1, cells := 0, slots := 0, locals := 24 } : Room) s m ([.ref (b 0), .int x1, .int x2, .int x3] : List Value).toArray below meth c H locs 0 0 (gQi below G (MW G.2 b n) 27 b F ([.ref (b 0), .int x1, .int x2, .int x3] : List Value).toArray s) (F0 m 116 ls []) := by
            intro S116 v4_116 hkb6 h H locs ls hP hS hl
            rewrite [f_X4_inOrder_b116] at h
            refine lv_iload hx hb dX4_inOrder_116 (lv_at hl 4 rfl) ?_
            exact J118 S116 v4_116 (by omega) h _ _ _ hP hS (lv_sub hl [0, 1, 2, 3, 5] rfl)
          rewrite [f_X4_inOrder_h21] at h
          refine lv_iload hx hb dX4_inOrder_21 (lv_at hl 7 rfl) ?_
          refine lv_aload_n hx hb dX4_inOrder_23 rfl (lv_at hl 0 rfl) ?_
          refine mg hx hb hw4 hown hK hP 7 (by decide) (v := .int (nI n.1)) rfl (hts (.fieldLink RX4 106 "BackupPowerModel" "loadMany" "I") (by decide +kernel)) dX4_inOrder_24 ?_
          refine lv_icmp_ge (tgt := 94) hx hb dX4_inOrder_27 (by decide) (fun c27 => ?_) (fun c27 => ?_)
          · have c27 : n.1 ≤ k21 := (nI_leI (a := n.1) (b := k21) (by omega) (by omega)).mp c27
            rewrite [if_pos c27] at h
            refine lv_aload_n hx hb dX4_inOrder_94 rfl (lv_at hl 0 rfl) ?_
            refine mg hx hb hw4 hown hK hP 10 (by decide) (v := .ref (b 3)) rfl (hts (.fieldLink RX4 30 "BackupPowerModel" "states" "[I") (by decide +kernel)) dX4_inOrder_95 ?_
            refine lv_iload hx hb dX4_inOrder_98 (lv_at hl 5 rfl) ?_
            refine mld hx hb hK hP 3 (by decide) (show k6 < 10 by omega) dX4_inOrder_100 ?_
            refine lv_iload_n hx hb dX4_inOrder_101 rfl (lv_at hl 1 rfl) ?_
            refine lv_icmp_ne (tgt := 116) hx hb dX4_inOrder_102 (by decide) (fun c102 => ?_) (fun c102 => ?_)
            · rewrite [if_neg c102] at h
              exact J116 S21 v4_21 (by omega) h _ _ _ hP hS (lv_sub hl [0, 1, 2, 3, 4, 5] rfl)
            · rewrite [if_pos c102] at h
              refine lv_iload hx hb dX4_inOrder_105 (lv_at hl 6 rfl) ?_
              refine lv_iload_n hx hb dX4_inOrder_107 rfl (lv_at hl 2 rfl) ?_
              refine lv_icmp_ne (tgt := 116) hx hb dX4_inOrder_108 (by decide) (fun c108 => ?_) (fun c108 => ?_)
              · rewrite [if_neg c108] at h
                exact J116 S21 v4_21 (by omega) h _ _ _ hP hS (lv_sub hl [0, 1, 2, 3, 4, 5] rfl)
              · rewrite [if_pos c108] at h
                refine lv_iload hx hb dX4_inOrder_111 (lv_at hl 5 rfl) ?_
                refine lv_goto (tgt := 118) hx hb dX4_inOrder_113 (by decide) ?_
                exact J118 S21 (nI k6) (by omega) h _ _ _ hP hS (lv_sub hl [0, 1, 2, 3, 5] rfl)
          · have c27 : ¬ n.1 ≤ k21 := fun z => c27 ((nI_leI (a := n.1) (b := k21) (by omega) (by omega)).mpr z)
            rewrite [if_neg c27] at h
            refine lv_iload_n hx hb dX4_inOrder_30 rfl (lv_at hl 3 rfl) ?_
            refine lv_if_eq (tgt := 45) hx hb dX4_inOrder_31 (by decide) (fun c31 => ?_) (fun c31 => ?_)
            · rewrite [if_pos c31] at h
              refine lv_aload_n hx hb dX4_inOrder_45 rfl (lv_at hl 0 rfl) ?_
              refine lv_iload hx hb dX4_inOrder_46 (lv_at hl 5 rfl) ?_
              refine lv_iload hx hb dX4_inOrder_48 (lv_at hl 7 rfl) ?_
              refine gcVz (wf := MW G.2 b n) (N := 27) (ad := b) (As := [.int (nI k6), .int (nI k21)]) (rest := []) (S := S21) ⟨hx, hb, hml, hown, hts⟩ hK hP hS (c_X4_isLess l G b ha n hn k6 (by omega) k21 (by omega) S21 _) (cwV 2 hts gX4_inOrder_X4_isLess rfl rfl rfl (by decide +kernel) ⟨Nat.le_of_ble_eq_true rfl, Nat.le_of_ble_eq_true rfl⟩) (mrO hK hP) rfl hl.1 rfl (Nat.le_of_ble_eq_true rfl) dX4_inOrder_50 ⟨Nat.le_of_ble_eq_true rfl, Nat.le_of_ble_eq_true rfl⟩ (fun p50 H locs ep50 hbp50 hP hS => ?_)
              rewrite [← ep50] at h
              rewrite [f_X4_inOrder_c50] at h
              exact J53 p50.2 v4_21 v6_21 p50.1 hbp50 (by omega) (by omega) h _ _ _ hP hS (lv_sub hl [0, 1, 2, 3, 4, 5, 6, 7] rfl)
            · rewrite [if_neg c31] at h
              refine lv_aload_n hx hb dX4_inOrder_34 rfl (lv_at hl 0 rfl) ?_
              refine lv_iload hx hb dX4_inOrder_35 (lv_at hl 7 rfl) ?_
              refine lv_iload hx hb dX4_inOrder_37 (lv_at hl 5 rfl) ?_
              refine gcVz (wf := MW G.2 b n) (N := 27) (ad := b) (As := [.int (nI k21), .int (nI k6)]) (rest := []) (S := S21) ⟨hx, hb, hml, hown, hts⟩ hK hP hS (c_X4_isLess l G b ha n hn k21 (by omega) k6 (by omega) S21 _) (cwV 2 hts gX4_inOrder_X4_isLess rfl rfl rfl (by decide +kernel) ⟨Nat.le_of_ble_eq_true rfl, Nat.le_of_ble_eq_true rfl⟩) (mrO hK hP) rfl hl.1 rfl (Nat.le_of_ble_eq_true rfl) dX4_inOrder_39 ⟨Nat.le_of_ble_eq_true rfl, Nat.le_of_ble_eq_true rfl⟩ (fun p39 H locs ep39 hbp39 hP hS => ?_)
              rewrite [← ep39] at h
              rewrite [f_X4_inOrder_c39] at h
              refine lv_goto (tgt := 53) hx hb dX4_inOrder_42 (by decide) ?_
              exact J53 p39.2 v4_21 v6_21 p39.1 hbp39 (by omega) (by omega) h _ _ _ hP hS (lv_sub hl [0, 1, 2, 3, 4, 5, 6, 7] rfl)
      rewrite [f_X4_inOrder_h6] at h
      refine lv_iload hx hb dX4_inOrder_6 (lv_at hl 5 rfl) ?_
      refine lv_aload_n hx hb dX4_inOrder_8 rfl (lv_at hl 0 rfl) ?_
      refine mg hx hb hw4 hown hK hP 7 (by decide) (v := .int (nI n.1)) rfl (hts (.fieldLink RX4 106 "BackupPowerModel" "loadMany" "I") (by decide +kernel)) dX4_inOrder_9 ?_
      refine lv_icmp_ge (tgt := 126) hx hb dX4_inOrder_12 (by decide) (fun c12 => ?_) (fun c12 => ?_)
      · have c12 : n.1 ≤ k6 := (nI_leI (a := n.1) (b := k6) (by omega) (by omega)).mp c12
        rewrite [if_pos c12] at h
        refine lv_iload hx hb dX4_inOrder_126 (lv_at hl 4 rfl) ?_
        exact gRi (wf := MW G.2 b n) (S := S6) hx hb hr hlocks hP hS h dX4_inOrder_128
      · have c12 : ¬ n.1 ≤ k6 := fun z => c12 ((nI_leI (a := n.1) (b := k6) (by omega) (by omega)).mpr z)
        rewrite [if_neg c12] at h
        refine lv_iconst (v := 0) hx hb dX4_inOrder_15 (by decide) ?_
        refine lv_istore (lv' := [(6, .int 0), (0, .ref (b 0)), (1, .int x1), (2, .int x2), (3, .int x3), (4, .int v4_6), (5, .int (nI k6))]) hx hb dX4_inOrder_16 hl (by decide) rfl (fun ls hl => ?_)
        refine lv_iconst (v := 0) hx hb dX4_inOrder_18 (by decide) ?_
        refine lv_istore (lv' := [(7, .int 0), (6, .int 0), (0, .ref (b 0)), (1, .int x1), (2, .int x2), (3, .int x3), (4, .int v4_6), (5, .int (nI k6))]) hx hb dX4_inOrder_19 hl (by decide) rfl (fun ls hl => ?_)
        exact L21 (n.1 + 1) 0 S6 v4_6 0 (by omega) (by omega) (by omega) h _ _ _ hP hS (lv_sub hl [2, 3, 4, 5, 6, 7, 1, 0] rfl)
  rewrite [f_X4_inOrder] at h
  refine lv_iconst (v := (-1)) hx hb dX4_inOrder_0 (by decide) ?_
  refine lv_istore (lv' := [(4, .int (-1)), (0, .ref (b 0)), (1, .int x1), (2, .int x2), (3, .int x3)]) hx hb dX4_inOrder_1 hl (by decide) rfl (fun ls hl => ?_)
  refine lv_iconst (v := 0) hx hb dX4_inOrder_3 (by decide) ?_
  refine lv_istore (lv' := [(5, .int 0), (4, .int (-1)), (0, .ref (b 0)), (1, .int x1), (2, .int x2), (3, .int x3)]) hx hb dX4_inOrder_4 hl (by decide) rfl (fun ls hl => ?_)
  exact L6 (n.1 + 1) 0 S (-1) (by omega) (by omega) h _ _ _ hP hS (lv_sub hl [2, 3, 4, 5, 1, 0] rfl)

def f_X4_takes_b41 (n : Nat × Nat × Nat) (x1 : Int32) (K4 : Nat → MS → Int32 → Int32 × MS) (k4 : Nat) (S41 : MS) (v2_41 : Int32) (s0_41 : Int32) : Int32 × MS := (K4 (k4 + 1) (muA S41 20 k4 ((S41.2 20 k4) + s0_41)) (v2_41 - s0_41))
def f_X4_takes_c34 (n : Nat × Nat × Nat) (x1 : Int32) (K4 : Nat → MS → Int32 → Int32 × MS) (k4 : Nat) (v2_4 : Int32) (p34 : Int32 × MS) : Int32 × MS := (f_X4_takes_b41 n x1 K4 k4 p34.2 v2_4 p34.1)
def f_X4_takes_c14 (n : Nat × Nat × Nat) (x1 : Int32) (K4 : Nat → MS → Int32 → Int32 × MS) (k4 : Nat) (v2_4 : Int32) (p14 : Int32 × MS) : Int32 × MS := (if p14.1 = 0 then (f_X4_takes_b41 n x1 K4 k4 p14.2 v2_4 0) else (f_X4_takes_c34 n x1 K4 k4 v2_4 (f_X4_lesser n ((p14.2.2 12 k4) - (p14.2.2 20 k4)) v2_4 p14.2)))
def f_X4_takes_h4 (n : Nat × Nat × Nat) (x1 : Int32) : Nat → Nat → MS → Int32 → Int32 × MS
  | 0, _, S4, _ => (0, S4)
  | q + 1, k4, S4, v2_4 => (if n.2.2 ≤ k4 then (x1 - v2_4, S4) else (f_X4_takes_c14 n x1 (f_X4_takes_h4 n x1 q) k4 v2_4 (f_X4_gives n k4 S4)))
def f_X4_takes (n : Nat × Nat × Nat) (x1 : Int32) (S : MS) : Int32 × MS := (f_X4_takes_h4 n x1 (n.2.2 + 1) 0 S x1)
set_option maxHeartbeats 4000000 in
set_option maxRecDepth 100000 in
theorem c_X4_takes (l : Launch) (G : WG) (b : Nat → Nat) (ha : wInj 27 b) (n : Nat × Nat × Nat) (hn : n.1 ≤ 10 ∧ n.2.1 ≤ 3 ∧ n.2.2 ≤ 3) (x1 : Int32) (S : MS) (sz : Nat) : gMi l yX4_takes wsX4_takes ({ frames := 1, cells := 0, slots := 0, locals := 21 }) G 27 b (MW G.2 b n) [.ref (b 0), .int x1] S sz (f_X4_takes n x1 S) := by
  unfold gMi
  refine Met.ofW (cc := cX4_takes) (maxL := 5) (ret := (some .int)) (by decide) rfl ?_
  intro p e s m args below meth c s₁ B hml hv
  obtain ⟨rfl, rfl, hP, hK⟩ := hv
  have hx := B.exec
  have hb := B.bytes
  have hr := B.returns
  have hts := atoms_spec (ws := wsX4_takes) B.pre
  have hown : s.vm.findClass RX4 = some m.cls := findClass_of_methodNamed B.named
  have hlocks := B.notSynchronized
  have hS : va_S (wA 27 b s.heap.size) s.heap s.heap [] := va_S.rf
  have hw4 : ∀ w ∈ wsX40, w.before ([.ref (b 0), .int x1] : List Value).toArray s = true := fun w hw => hts w ((by decide +kernel : ∀ w ∈ wsX40, w ∈ wsX4_takes) w hw)
  have hl := lv_entry ([.ref (b 0), .int x1]) (n := 5) (Nat.le_of_ble_eq_true rfl)
  rw [lg_entry_eq]
  generalize (lg_sl ([.ref (b 0), .int x1] : List Value) ++ List.replicate (5 - (lg_sl ([.ref (b 0), .int x1] : List Value)).length) Slot.unset).toArray = ls at hl ⊢
  have hl : lv_has ls 5 [(0, .ref (b 0)), (1, .int x1)] := hl
  generalize hF : f_X4_takes n x1 S = F
  have h : f_X4_takes n x1 S = F := hF
  clear hF
  show W p l e ({ frames := 1, cells := 0, slots := 0, locals := 21 } : Room) s m ([.ref (b 0), .int x1] : List Value).toArray below meth c s.heap [] 0 0 (gQi below G (MW G.2 b n) 27 b F ([.ref (b 0), .int x1] : List Value).toArray s) (F0 m 0 ls [])
  have L4 : ∀ (q4 : Nat) (k4 : Nat) (S4 : MS) (v2_4 : Int32), k4 ≤ n.2.2 → n.2.2 < k4 + q4 → f_X4_takes_h4 n x1 q4 k4 S4 v2_4 = F → ∀ (H : Heap) (locs : List Loc) (ls : Array Slot), wM G b n S4 H → va_S (wA 27 b s.heap.size) s.heap H locs → lv_has ls 5 [(0, .ref (b 0)), (1, .int x1), (2, .int v2_4), (3, .int (nI k4))] → W p l e ({ frames := 1, cells := 0, slots := 0, locals := 21 } : Room) s m ([.ref (b 0), .int x1] : List Value).toArray below meth c H locs 0 0 (gQi below G (MW G.2 b n) 27 b F ([.ref (b 0), .int x1] : List Value).toArray s) (F0 m 4 ls []) := by
    intro q4
    induction q4 with
    | zero => intro k4 S4 v2_4 hk4 hq4 h H locs ls hP hS hl; omega
    | succ q4 ih4 =>
      intro k4 S4 v2_4 hk4 hq4 h H locs ls hP hS hl
      have J41 : ∀ (S41 : MS) (v2_41 : Int32) (s0_41 : Int32), (k4 < n.2.2) → f_X4_takes_b41 n x1 (f_X4_takes_h4 n x1 q4) k4 S41 v2_41 s0_41 = F → ∀ (H : Heap) (locs : List Loc) (ls : Array Slot), wM G b n S41 H → va_S (wA 27 b s.heap.size) s.heap H locs → lv_has ls 5 [(0, .ref (b 0)), (1, .int x1), (2, .int v2_41), (3, .int (nI k4))] → W p l e ({ frames := 1, cells := 0, slots := 0, locals := 21 } : Room) s m ([.ref (b 0), .int x1] : List Value).toArray below meth c H locs 0 0 (gQi below G (MW G.2 b n) 27 b F ([.ref (b 0), .int x1] : List Value).toArray s) (F0 m 41 ls [.int s0_41]) := by
        intro S41 v2_41 s0_41 hkb4 h H locs ls hP hS hl
        rewrite [f_X4_takes_b41] at h
        refine lv_istore (lv' := [(4, .int s0_41), (0, .ref (b 0)), (1, .int x1), (2, .int v2_41), (3, .int (nI k4))]) hx hb dX4_takes_41 hl (by decide) rfl (fun ls hl => ?_)
        refine lv_aload_n hx hb dX4_takes_43 rfl (lv_at hl 1 rfl) ?_
        refine mg hx hb hw4 hown hK hP 29 (by decide) (v := .ref (b 20)) rfl (hts (.fieldLink RX4 82 "BackupPowerModel" "given" "[I") (by decide +kernel)) dX4_takes_44 ?_
        refine lv_iload_n hx hb dX4_takes_47 rfl (lv_at hl 4 rfl) ?_
        refine lv_dup2_11 hx hb dX4_takes_48 rfl rfl ?_
        refine mld hx hb hK hP 20 (by decide) (show k4 < 3 by omega) dX4_takes_49 ?_
        refine lv_iload hx hb dX4_takes_50 (lv_at hl 0 rfl) ?_
        refine lv_iadd hx hb dX4_takes_52 ?_
        refine mst hx hb hK ha hP hS 20 (by decide) (show k4 < 3 by omega) dX4_takes_53 (fun H locs hP hS => ?_)
        refine lv_iload_n hx hb dX4_takes_54 rfl (lv_at hl 3 rfl) ?_
        refine lv_iload hx hb dX4_takes_55 (lv_at hl 0 rfl) ?_
        refine lv_isub hx hb dX4_takes_57 ?_
        refine lv_istore_n (lv' := [(2, .int (v2_41 - s0_41)), (4, .int s0_41), (0, .ref (b 0)), (1, .int x1), (3, .int (nI k4))]) hx hb dX4_takes_58 rfl hl (by decide) rfl (fun ls hl => ?_)
        refine lv_iinc (k := 4) (v := nI (k4 + 1)) (lv' := [(3, .int (nI (k4 + 1))), (2, .int (v2_41 - s0_41)), (4, .int s0_41), (0, .ref (b 0)), (1, .int x1)]) hx hb dX4_takes_59 hl rfl (nI_inc _) (by decide) rfl (fun ls hl => ?_)
        refine lv_goto (tgt := 4) hx hb dX4_takes_62 (by decide) ?_
        exact ih4 (k4 + 1) (muA S41 20 k4 ((S41.2 20 k4) + s0_41)) (v2_41 - s0_41) (by omega) (by omega) h _ _ _ hP hS (lv_sub hl [3, 4, 1, 0] rfl)
      rewrite [f_X4_takes_h4] at h
      refine lv_iload_n hx hb dX4_takes_4 rfl (lv_at hl 3 rfl) ?_
      refine lv_aload_n hx hb dX4_takes_5 rfl (lv_at hl 0 rfl) ?_
      refine mg hx hb hw4 hown hK hP 20 (by decide) (v := .int (nI n.2.2)) rfl (hts (.fieldLink RX4 113 "BackupPowerModel" "generatorMany" "I") (by decide +kernel)) dX4_takes_6 ?_
      refine lv_icmp_ge (tgt := 65) hx hb dX4_takes_9 (by decide) (fun c9 => ?_) (fun c9 => ?_)
      · have c9 : n.2.2 ≤ k4 := (nI_leI (a := n.2.2) (b := k4) (by omega) (by omega)).mp c9
        rewrite [if_pos c9] at h
        refine lv_iload_n hx hb dX4_takes_65 rfl (lv_at hl 1 rfl) ?_
        refine lv_iload_n hx hb dX4_takes_66 rfl (lv_at hl 2 rfl) ?_
        refine lv_isub hx hb dX4_takes_67 ?_
        exact gRi (wf := MW G.2 b n) (S := S4) hx hb hr hlocks hP hS h dX4_takes_68
      · have c9 : ¬ n.2.2 ≤ k4 := fun z => c9 ((nI_leI (a := n.2.2) (b := k4) (by omega) (by omega)).mpr z)
        rewrite [if_neg c9] at h
        refine lv_aload_n hx hb dX4_takes_12 rfl (lv_at hl 0 rfl) ?_
        refine lv_iload_n hx hb dX4_takes_13 rfl (lv_at hl 3 rfl) ?_
        refine gcVz (wf := MW G.2 b n) (N := 27) (ad := b) (As := [.int (nI k4)]) (rest := []) (S := S4) ⟨hx, hb, hml, hown, hts⟩ hK hP hS (c_X4_gives l G b ha n hn k4 (by omega) S4 _) (cwV 1 hts gX4_takes_X4_gives rfl rfl rfl (by decide +kernel) ⟨Nat.le_of_ble_eq_true rfl, Nat.le_of_ble_eq_true rfl⟩) (mrO hK hP) rfl hl.1 rfl (Nat.le_of_ble_eq_true rfl) dX4_takes_14 ⟨Nat.le_of_ble_eq_true rfl, Nat.le_of_ble_eq_true rfl⟩ (fun p14 H locs ep14 hbp14 hP hS => ?_)
        rewrite [← ep14] at h
        rewrite [f_X4_takes_c14] at h
        refine lv_if_eq (tgt := 40) hx hb dX4_takes_17 (by decide) (fun c17 => ?_) (fun c17 => ?_)
        · rewrite [if_pos c17] at h
          refine lv_iconst (v := 0) hx hb dX4_takes_40 (by decide) ?_
          exact J41 p14.2 v2_4 0 (by omega) h _ _ _ hP hS (lv_sub hl [0, 1, 2, 3] rfl)
        · rewrite [if_neg c17] at h
          refine lv_aload_n hx hb dX4_takes_20 rfl (lv_at hl 0 rfl) ?_
          refine mg hx hb hw4 hown hK hP 21 (by decide) (v := .ref (b 12)) rfl (hts (.fieldLink RX4 57 "BackupPowerModel" "strengths" "[I") (by decide +kernel)) dX4_takes_21 ?_
          refine lv_iload_n hx hb dX4_takes_24 rfl (lv_at hl 3 rfl) ?_
          refine mld hx hb hK hP 12 (by decide) (show k4 < 3 by omega) dX4_takes_25 ?_
          refine lv_aload_n hx hb dX4_takes_26 rfl (lv_at hl 0 rfl) ?_
          refine mg hx hb hw4 hown hK hP 29 (by decide) (v := .ref (b 20)) rfl (hts (.fieldLink RX4 82 "BackupPowerModel" "given" "[I") (by decide +kernel)) dX4_takes_27 ?_
          refine lv_iload_n hx hb dX4_takes_30 rfl (lv_at hl 3 rfl) ?_
          refine mld hx hb hK hP 20 (by decide) (show k4 < 3 by omega) dX4_takes_31 ?_
          refine lv_isub hx hb dX4_takes_32 ?_
          refine lv_iload_n hx hb dX4_takes_33 rfl (lv_at hl 2 rfl) ?_
          refine gcSi (wf := MW G.2 b n) (N := 27) (ad := b) (As := [.int ((p14.2.2 12 k4) - (p14.2.2 20 k4)), .int v2_4]) (rest := []) (S := p14.2) ⟨hx, hb, hml, hown, hts⟩ hK hP hS (c_X4_lesser l G b ha n hn ((p14.2.2 12 k4) - (p14.2.2 20 k4)) v2_4 p14.2 _) (va_cwS 2 hts gX4_takes_X4_lesser rfl rfl rfl (by decide +kernel) ⟨Nat.le_of_ble_eq_true rfl, Nat.le_of_ble_eq_true rfl⟩) rfl hl.1 rfl (Nat.le_of_ble_eq_true rfl) dX4_takes_34 ⟨Nat.le_of_ble_eq_true rfl, Nat.le_of_ble_eq_true rfl⟩ (fun p34 H locs ep34 hP hS => ?_)
          rewrite [← ep34] at h
          rewrite [f_X4_takes_c34] at h
          refine lv_goto (tgt := 41) hx hb dX4_takes_37 (by decide) ?_
          exact J41 p34.2 v2_4 p34.1 (by omega) h _ _ _ hP hS (lv_sub hl [0, 1, 2, 3] rfl)
  rewrite [f_X4_takes] at h
  refine lv_iload_n hx hb dX4_takes_0 rfl (lv_at hl 1 rfl) ?_
  refine lv_istore_n (lv' := [(2, .int x1), (0, .ref (b 0)), (1, .int x1)]) hx hb dX4_takes_1 rfl hl (by decide) rfl (fun ls hl => ?_)
  refine lv_iconst (v := 0) hx hb dX4_takes_2 (by decide) ?_
  refine lv_istore_n (lv' := [(3, .int 0), (2, .int x1), (0, .ref (b 0)), (1, .int x1)]) hx hb dX4_takes_3 rfl hl (by decide) rfl (fun ls hl => ?_)
  exact L4 (n.2.2 + 1) 0 S x1 (by omega) (by omega) h _ _ _ hP hS (lv_sub hl [2, 3, 1, 0] rfl)

def f_X4_serves_b66 (n : Nat × Nat × Nat) (K7 : Nat → MS → Int32 → MS) (k7 : Nat) (S66 : MS) (v1_66 : Int32) (s2_66 : Int32) (s3_66 : Int32) : MS := (K7 (k7 + 1) (muA S66 5 k7 (s2_66 + s3_66)) v1_66)
def f_X4_serves_b42 (n : Nat × Nat × Nat) (K7 : Nat → MS → Int32 → MS) (k7 : Nat) (S42 : MS) (v1_42 : Int32) (s2_42 : Int32) (s3_42 : Int32) : MS := (if ((muA S42 4 k7 (s2_42 + s3_42)).2 3 k7) = 2 then (f_X4_serves_b66 n K7 k7 (muA S42 4 k7 (s2_42 + s3_42)) v1_42 ((muA S42 4 k7 (s2_42 + s3_42)).2 5 k7) 1) else (f_X4_serves_b66 n K7 k7 (muA S42 4 k7 (s2_42 + s3_42)) v1_42 ((muA S42 4 k7 (s2_42 + s3_42)).2 5 k7) 0))
def f_X4_serves_c142 (n : Nat × Nat × Nat) (K115 : Nat → MS → Int32 → MS) (k115 : Nat) (v3_115 : Int32) (p142 : Int32 × MS) : MS := (K115 (k115 + 1) (muS (muA p142.2 7 k115 ((p142.2.2 7 k115) - p142.1)) 38 (((muA p142.2 7 k115 ((p142.2.2 7 k115) - p142.1)).1 38) + p142.1)) (v3_115 - p142.1))
def f_X4_serves_c138 (n : Nat × Nat × Nat) (K115 : Nat → MS → Int32 → MS) (k115 : Nat) (v3_115 : Int32) (p138 : Int32 × MS) : MS := (f_X4_serves_c142 n K115 k115 v3_115 (f_X4_lesser n p138.1 v3_115 p138.2))
def f_X4_serves_h115 (n : Nat × Nat × Nat) : Nat → Nat → MS → Int32 → MS
  | 0, _, S115, _ => S115
  | q + 1, k115, S115, v3_115 => (if n.2.1 ≤ k115 then S115 else (f_X4_serves_c138 n (f_X4_serves_h115 n q) k115 v3_115 (f_X4_lesser n (S115.2 8 k115) (S115.2 7 k115) S115)))
def f_X4_serves_c94 (n : Nat × Nat × Nat) (v1_7 : Int32) (p94 : Int32 × MS) : MS := (f_X4_serves_h115 n (n.2.1 + 1) 0 (muS p94.2 37 ((p94.2.1 37) + p94.1)) (v1_7 - p94.1))
def f_X4_serves_h7 (n : Nat × Nat × Nat) : Nat → Nat → MS → Int32 → MS
  | 0, _, S7, _ => S7
  | q + 1, k7, S7, v1_7 => (if n.1 ≤ k7 then (if (S7.1 2) = 0 then (f_X4_serves_c94 n v1_7 (f_X4_takes n v1_7 S7)) else (muS S7 36 ((S7.1 36) + v1_7))) else (if (S7.2 3 k7) = 1 then (f_X4_serves_b42 n (f_X4_serves_h7 n q) k7 S7 v1_7 (S7.2 4 k7) (S7.2 2 k7)) else (f_X4_serves_b42 n (f_X4_serves_h7 n q) k7 S7 v1_7 (S7.2 4 k7) 0)))
def f_X4_serves_c1 (n : Nat × Nat × Nat) (p1 : Int32 × MS) : MS := (f_X4_serves_h7 n (n.1 + 1) 0 p1.2 p1.1)
def f_X4_serves (n : Nat × Nat × Nat) (S : MS) : MS := (f_X4_serves_c1 n (f_X4_needed n S))
set_option maxHeartbeats 4000000 in
set_option maxRecDepth 100000 in
theorem c_X4_serves (l : Launch) (G : WG) (b : Nat → Nat) (ha : wInj 27 b) (n : Nat × Nat × Nat) (hn : n.1 ≤ 10 ∧ n.2.1 ≤ 3 ∧ n.2.2 ≤ 3) (S : MS) (sz : Nat) : gMv l yX4_serves wsX4_serves ({ frames := 2, cells := 0, slots := 0, locals := 45 }) G 27 b (MW G.2 b n) [.ref (b 0)] S sz (f_X4_serves n S) := by
  unfold gMv
  refine Met.ofW (cc := cX4_serves) (maxL := 6) (ret := none) (by decide) rfl ?_
  intro p e s m args below meth c s₁ B hml hv
  obtain ⟨rfl, rfl, hP, hK⟩ := hv
  have hx := B.exec
  have hb := B.bytes
  have hr := B.returns
  have hts := atoms_spec (ws := wsX4_serves) B.pre
  have hown : s.vm.findClass RX4 = some m.cls := findClass_of_methodNamed B.named
  have hlocks := B.notSynchronized
  have hS : va_S (wA 27 b s.heap.size) s.heap s.heap [] := va_S.rf
  have hw4 : ∀ w ∈ wsX40, w.before ([.ref (b 0)] : List Value).toArray s = true := fun w hw => hts w ((by decide +kernel : ∀ w ∈ wsX40, w ∈ wsX4_serves) w hw)
  have hl := lv_entry ([.ref (b 0)]) (n := 6) (Nat.le_of_ble_eq_true rfl)
  rw [lg_entry_eq]
  generalize (lg_sl ([.ref (b 0)] : List Value) ++ List.replicate (6 - (lg_sl ([.ref (b 0)] : List Value)).length) Slot.unset).toArray = ls at hl ⊢
  have hl : lv_has ls 6 [(0, .ref (b 0))] := hl
  generalize hF : f_X4_serves n S = F
  have h : f_X4_serves n S = F := hF
  clear hF
  show W p l e ({ frames := 2, cells := 0, slots := 0, locals := 45 } : Room) s m ([.ref (b 0)] : List Value).toArray below meth c s.heap [] 0 0 (gQv below G (MW G.2 b n) 27 b F ([.ref (b 0)] : List Value).toArray s) (F0 m 0 ls [])
  have L7 : ∀ (q7 : Nat) (k7 : Nat) (S7 : MS) (v1_7 : Int32), k7 ≤ n.1 → n.1 < k7 + q7 → f_X4_serves_h7 n q7 k7 S7 v1_7 = F → ∀ (H : Heap) (locs : List Loc) (ls : Array Slot), wM G b n S7 H → va_S (wA 27 b s.heap.size) s.heap H locs → lv_has ls 6 [(0, .ref (b 0)), (1, .int v1_7), (2, .int (nI k7))] → W p l e ({ frames := 2, cells := 0, slots := 0, locals := 45 } : Room) s m ([.ref (b 0)] : List Value).toArray below meth c H locs 0 0 (gQv below G (MW G.2 b n) 27 b F ([.ref (b 0)] : List Value).toArray s) (F0 m 7 ls []) := by
    intro q7
    induction q7 with
    | zero => intro k7 S7 v1_7 hk7 hq7 h H locs ls hP hS hl; omega
    | succ q7 ih7 =>
      intro k7 S7 v1_7 hk7 hq7 h H locs ls hP hS hl
      have J42 : ∀ (S42 : MS) (v1_42 : Int32) (s2_42 : Int32) (s3_42 : Int32), (k7 < n.1) → f_X4_serves_b42 n (f_X4_serves_h7 n q7) k7 S42 v1_42 s2_42 s3_42 = F → ∀ (H : Heap) (locs : List Loc) (ls : Array Slot), wM G b n S42 H → va_S (wA 27 b s.heap.size) s.heap H locs → lv_has ls 6 [(0, .ref (b 0)), (1, .int v1_42), (2, .int (nI k7))] → W p l e ({ frames := 2, cells := 0, slots := 0, locals := 45 } : Room) s m ([.ref (b 0)] : List Value).toArray below meth c H locs 0 0 (gQv below G (MW G.2 b n) 27 b F ([.ref (b 0)] : List Value).toArray s) (F0 m 42 ls [.int s3_42, .int s2_42, .int (nI k7), .ref (b 4)]) := by
        intro S42 v1_42 s2_42 s3_42 hkb7 h H locs ls hP hS hl
        have J66 : ∀ (S66 : MS) (v1_66 : Int32) (s2_66 : Int32) (s3_66 : Int32), (isB s3_66) → (k7 < n.1) → f_X4_serves_b66 n (f_X4_serves_h7 n q7) k7 S66 v1_66 s2_66 s3_66 = F → ∀ (H : Heap) (locs : List Loc) (ls : Array Slot), wM G b n S66 H → va_S (wA 27 b s.heap.size) s.heap H locs → lv_has ls 6 [(0, .ref (b 0)), (1, .int v1_66), (2, .int (nI k7))] → W p l e ({ frames := 2, cells := 0, slots := 0, locals := 45 } : Room) s m ([.ref (b 0)] : List Value).toArray below meth c H locs 0 0 (gQv below G (MW G.2 b n) 27 b F ([.ref (b 0)] : List Value).toArray s) (F0 m 66 ls [.int s3_66, .int s2_66, .int (nI k7), .ref (b 5)]) := by
          intro S66 v1_66 s2_66 s3_66 hbs3_66 hkb7 h H locs ls hP hS hl
          rewrite [f_X4_serves_b66] at h
          refine lv_iadd hx hb dX4_serves_66 ?_
          refine mst hx hb hK ha hP hS 5 (by decide) (show k7 < 10 by omega) dX4_serves_67 (fun H locs hP hS => ?_)
          refine lv_iinc (k := 2) (v := nI (k7 + 1)) (lv' := [(2, .int (nI (k7 + 1))), (0, .ref (b 0)), (1, .int v1_66)]) hx hb dX4_serves_68 hl rfl (nI_inc _) (by decide) rfl (fun ls hl => ?_)
          refine lv_goto (tgt := 7) hx hb dX4_serves_71 (by decide) ?_
          exact ih7 (k7 + 1) (muA S66 5 k7 (s2_66 + s3_66)) v1_66 (by omega) (by omega) h _ _ _ hP hS (lv_sub hl [1, 2, 0] rfl)
        rewrite [f_X4_serves_b42] at h
        refine lv_iadd hx hb dX4_serves_42 ?_
        refine mst hx hb hK ha hP hS 4 (by decide) (show k7 < 10 by omega) dX4_serves_43 (fun H locs hP hS => ?_)
        refine lv_aload_n hx hb dX4_serves_44 rfl (lv_at hl 0 rfl) ?_
        refine mg hx hb hw4 hown hK hP 12 (by decide) (v := .ref (b 5)) rfl (hts (.fieldLink RX4 36 "BackupPowerModel" "darks" "[I") (by decide +kernel)) dX4_serves_45 ?_
        refine lv_iload_n hx hb dX4_serves_48 rfl (lv_at hl 2 rfl) ?_
        refine lv_dup2_11 hx hb dX4_serves_49 rfl rfl ?_
        refine mld hx hb hK hP 5 (by decide) (show k7 < 10 by omega) dX4_serves_50 ?_
        refine lv_aload_n hx hb dX4_serves_51 rfl (lv_at hl 0 rfl) ?_
        refine mg hx hb hw4 hown hK hP 10 (by decide) (v := .ref (b 3)) rfl (hts (.fieldLink RX4 30 "BackupPowerModel" "states" "[I") (by decide +kernel)) dX4_serves_52 ?_
        refine lv_iload_n hx hb dX4_serves_55 rfl (lv_at hl 2 rfl) ?_
        refine mld hx hb hK hP 3 (by decide) (show k7 < 10 by omega) dX4_serves_56 ?_
        refine lv_iconst (v := 2) hx hb dX4_serves_57 (by decide) ?_
        refine lv_icmp_ne (tgt := 65) hx hb dX4_serves_58 (by decide) (fun c58 => ?_) (fun c58 => ?_)
        · rewrite [if_neg c58] at h
          refine lv_iconst (v := 0) hx hb dX4_serves_65 (by decide) ?_
          exact J66 (muA S42 4 k7 (s2_42 + s3_42)) v1_42 ((muA S42 4 k7 (s2_42 + s3_42)).2 5 k7) 0 isB_0 (by omega) h _ _ _ hP hS (lv_sub hl [0, 1, 2] rfl)
        · rewrite [if_pos c58] at h
          refine lv_iconst (v := 1) hx hb dX4_serves_61 (by decide) ?_
          refine lv_goto (tgt := 66) hx hb dX4_serves_62 (by decide) ?_
          exact J66 (muA S42 4 k7 (s2_42 + s3_42)) v1_42 ((muA S42 4 k7 (s2_42 + s3_42)).2 5 k7) 1 isB_1 (by omega) h _ _ _ hP hS (lv_sub hl [0, 1, 2] rfl)
      have L115 : ∀ (q115 : Nat) (k115 : Nat) (S115 : MS) (v3_115 : Int32), k115 ≤ n.2.1 → n.2.1 < k115 + q115 → f_X4_serves_h115 n q115 k115 S115 v3_115 = F → ∀ (H : Heap) (locs : List Loc) (ls : Array Slot), wM G b n S115 H → va_S (wA 27 b s.heap.size) s.heap H locs → lv_has ls 6 [(0, .ref (b 0)), (3, .int v3_115), (4, .int (nI k115))] → W p l e ({ frames := 2, cells := 0, slots := 0, locals := 45 } : Room) s m ([.ref (b 0)] : List Value).toArray below meth c H locs 0 0 (gQv below G (MW G.2 b n) 27 b F ([.ref (b 0)] : List Value).toArray s) (F0 m 115 ls []) := by
        intro q115
        induction q115 with
        | zero => intro k115 S115 v3_115 hk115 hq115 h H locs ls hP hS hl; omega
        | succ q115 ih115 =>
          intro k115 S115 v3_115 hk115 hq115 h H locs ls hP hS hl
          rewrite [f_X4_serves_h115] at h
          refine lv_iload hx hb dX4_serves_115 (lv_at hl 2 rfl) ?_
          refine lv_aload_n hx hb dX4_serves_117 rfl (lv_at hl 0 rfl) ?_
          refine mg hx hb hw4 hown hK hP 13 (by decide) (v := .int (nI n.2.1)) rfl (hts (.fieldLink RX4 116 "BackupPowerModel" "batteryMany" "I") (by decide +kernel)) dX4_serves_118 ?_
          refine lv_icmp_ge (tgt := 181) hx hb dX4_serves_121 (by decide) (fun c121 => ?_) (fun c121 => ?_)
          · have c121 : n.2.1 ≤ k115 := (nI_leI (a := n.2.1) (b := k115) (by omega) (by omega)).mp c121
            rewrite [if_pos c121] at h
            exact gRv (wf := MW G.2 b n) (S := S115) hx hb hr hlocks hP hS h dX4_serves_181
          · have c121 : ¬ n.2.1 ≤ k115 := fun z => c121 ((nI_leI (a := n.2.1) (b := k115) (by omega) (by omega)).mpr z)
            rewrite [if_neg c121] at h
            refine lv_aload_n hx hb dX4_serves_124 rfl (lv_at hl 0 rfl) ?_
            refine mg hx hb hw4 hown hK hP 16 (by decide) (v := .ref (b 8)) rfl (hts (.fieldLink RX4 45 "BackupPowerModel" "rates" "[I") (by decide +kernel)) dX4_serves_125 ?_
            refine lv_iload hx hb dX4_serves_128 (lv_at hl 2 rfl) ?_
            refine mld hx hb hK hP 8 (by decide) (show k115 < 3 by omega) dX4_serves_130 ?_
            refine lv_aload_n hx hb dX4_serves_131 rfl (lv_at hl 0 rfl) ?_
            refine mg hx hb hw4 hown hK hP 15 (by decide) (v := .ref (b 7)) rfl (hts (.fieldLink RX4 42 "BackupPowerModel" "charges" "[I") (by decide +kernel)) dX4_serves_132 ?_
            refine lv_iload hx hb dX4_serves_135 (lv_at hl 2 rfl) ?_
            refine mld hx hb hK hP 7 (by decide) (show k115 < 3 by omega) dX4_serves_137 ?_
            refine gcSi (wf := MW G.2 b n) (N := 27) (ad := b) (As := [.int (S115.2 8 k115), .int (S115.2 7 k115)]) (rest := []) (S := S115) ⟨hx, hb, hml, hown, hts⟩ hK hP hS (c_X4_lesser l G b ha n hn (S115.2 8 k115) (S115.2 7 k115) S115 _) (va_cwS 2 hts gX4_serves_X4_lesser rfl rfl rfl (by decide +kernel) ⟨Nat.le_of_ble_eq_true rfl, Nat.le_of_ble_eq_true rfl⟩) rfl hl.1 rfl (Nat.le_of_ble_eq_true rfl) dX4_serves_138 ⟨Nat.le_of_ble_eq_true rfl, Nat.le_of_ble_eq_true rfl⟩ (fun p138 H locs ep138 hP hS => ?_)
            rewrite [← ep138] at h
            rewrite [f_X4_serves_c138] at h
            refine lv_iload_n hx hb dX4_serves_141 rfl (lv_at hl 1 rfl) ?_
            refine gcSi (wf := MW G.2 b n) (N := 27) (ad := b) (As := [.int p138.1, .int v3_115]) (rest := []) (S := p138.2) ⟨hx, hb, hml, hown, hts⟩ hK hP hS (c_X4_lesser l G b ha n hn p138.1 v3_115 p138.2 _) (va_cwS 2 hts gX4_serves_X4_lesser rfl rfl rfl (by decide +kernel) ⟨Nat.le_of_ble_eq_true rfl, Nat.le_of_ble_eq_true rfl⟩) rfl hl.1 rfl (Nat.le_of_ble_eq_true rfl) dX4_serves_142 ⟨Nat.le_of_ble_eq_true rfl, Nat.le_of_ble_eq_true rfl⟩ (fun p142 H locs ep142 hP hS => ?_)
            rewrite [← ep142] at h
            rewrite [f_X4_serves_c142] at h
            refine lv_istore (lv' := [(5, .int p142.1), (0, .ref (b 0)), (3, .int v3_115), (4, .int (nI k115))]) hx hb dX4_serves_145 hl (by decide) rfl (fun ls hl => ?_)
            refine lv_aload_n hx hb dX4_serves_147 rfl (lv_at hl 1 rfl) ?_
            refine mg hx hb hw4 hown hK hP 15 (by decide) (v := .ref (b 7)) rfl (hts (.fieldLink RX4 42 "BackupPowerModel" "charges" "[I") (by decide +kernel)) dX4_serves_148 ?_
            refine lv_iload hx hb dX4_serves_151 (lv_at hl 3 rfl) ?_
            refine lv_dup2_11 hx hb dX4_serves_153 rfl rfl ?_
            refine mld hx hb hK hP 7 (by decide) (show k115 < 3 by omega) dX4_serves_154 ?_
            refine lv_iload hx hb dX4_serves_155 (lv_at hl 0 rfl) ?_
            refine lv_isub hx hb dX4_serves_157 ?_
            refine mst hx hb hK ha hP hS 7 (by decide) (show k115 < 3 by omega) dX4_serves_158 (fun H locs hP hS => ?_)
            refine lv_aload_n hx hb dX4_serves_159 rfl (lv_at hl 1 rfl) ?_
            refine lv_dup hx hb dX4_serves_160 rfl ?_
            refine mg hx hb hw4 hown hK hP 38 (by decide) (v := .int ((muA p142.2 7 k115 ((p142.2.2 7 k115) - p142.1)).1 38)) rfl (hts (.fieldLink RX4 172 "BackupPowerModel" "ofBatteries" "I") (by decide +kernel)) dX4_serves_161 ?_
            refine lv_iload hx hb dX4_serves_164 (lv_at hl 0 rfl) ?_
            refine lv_iadd hx hb dX4_serves_166 ?_
            refine mp hx hb hw4 hown hK ha hP hS 38 (by decide) rfl rfl okI (hts (.fieldLink RX4 172 "BackupPowerModel" "ofBatteries" "I") (by decide +kernel)) dX4_serves_167 (fun H locs hP hS => ?_)
            refine lv_iload_n hx hb dX4_serves_170 rfl (lv_at hl 2 rfl) ?_
            refine lv_iload hx hb dX4_serves_171 (lv_at hl 0 rfl) ?_
            refine lv_isub hx hb dX4_serves_173 ?_
            refine lv_istore_n (lv' := [(3, .int (v3_115 - p142.1)), (5, .int p142.1), (0, .ref (b 0)), (4, .int (nI k115))]) hx hb dX4_serves_174 rfl hl (by decide) rfl (fun ls hl => ?_)
            refine lv_iinc (k := 3) (v := nI (k115 + 1)) (lv' := [(4, .int (nI (k115 + 1))), (3, .int (v3_115 - p142.1)), (5, .int p142.1), (0, .ref (b 0))]) hx hb dX4_serves_175 hl rfl (nI_inc _) (by decide) rfl (fun ls hl => ?_)
            refine lv_goto (tgt := 115) hx hb dX4_serves_178 (by decide) ?_
            exact ih115 (k115 + 1) (muS (muA p142.2 7 k115 ((p142.2.2 7 k115) - p142.1)) 38 (((muA p142.2 7 k115 ((p142.2.2 7 k115) - p142.1)).1 38) + p142.1)) (v3_115 - p142.1) (by omega) (by omega) h _ _ _ hP hS (lv_sub hl [3, 1, 0] rfl)
      rewrite [f_X4_serves_h7] at h
      refine lv_iload_n hx hb dX4_serves_7 rfl (lv_at hl 2 rfl) ?_
      refine lv_aload_n hx hb dX4_serves_8 rfl (lv_at hl 0 rfl) ?_
      refine mg hx hb hw4 hown hK hP 7 (by decide) (v := .int (nI n.1)) rfl (hts (.fieldLink RX4 106 "BackupPowerModel" "loadMany" "I") (by decide +kernel)) dX4_serves_9 ?_
      refine lv_icmp_ge (tgt := 74) hx hb dX4_serves_12 (by decide) (fun c12 => ?_) (fun c12 => ?_)
      · have c12 : n.1 ≤ k7 := (nI_leI (a := n.1) (b := k7) (by omega) (by omega)).mp c12
        rewrite [if_pos c12] at h
        refine lv_aload_n hx hb dX4_serves_74 rfl (lv_at hl 0 rfl) ?_
        refine mg hx hb hw4 hown hK hP 2 (by decide) (v := .int (S7.1 2)) rfl (hts (.fieldLink RX4 7 "BackupPowerModel" "areUp" "Z") (by decide +kernel)) dX4_serves_75 ?_
        refine lv_if_eq (tgt := 92) hx hb dX4_serves_78 (by decide) (fun c78 => ?_) (fun c78 => ?_)
        · rewrite [if_pos c78] at h
          refine lv_aload_n hx hb dX4_serves_92 rfl (lv_at hl 0 rfl) ?_
          refine lv_iload_n hx hb dX4_serves_93 rfl (lv_at hl 1 rfl) ?_
          refine gcVi (wf := MW G.2 b n) (N := 27) (ad := b) (As := [.int v1_7]) (rest := []) (S := S7) ⟨hx, hb, hml, hown, hts⟩ hK hP hS (c_X4_takes l G b ha n hn v1_7 S7 _) (cwV 1 hts gX4_serves_X4_takes rfl rfl rfl (by decide +kernel) ⟨Nat.le_of_ble_eq_true rfl, Nat.le_of_ble_eq_true rfl⟩) (mrO hK hP) rfl hl.1 rfl (Nat.le_of_ble_eq_true rfl) dX4_serves_94 ⟨Nat.le_of_ble_eq_true rfl, Nat.le_of_ble_eq_true rfl⟩ (fun p94 H locs ep94 hP hS => ?_)
          rewrite [← ep94] at h
          rewrite [f_X4_serves_c94] at h
          refine lv_istore_n (lv' := [(2, .int p94.1), (0, .ref (b 0)), (1, .int v1_7)]) hx hb dX4_serves_97 rfl hl (by decide) rfl (fun ls hl => ?_)
          refine lv_aload_n hx hb dX4_serves_98 rfl (lv_at hl 1 rfl) ?_
          refine lv_dup hx hb dX4_serves_99 rfl ?_
          refine mg hx hb hw4 hown hK hP 37 (by decide) (v := .int (p94.2.1 37)) rfl (hts (.fieldLink RX4 169 "BackupPowerModel" "ofGenerators" "I") (by decide +kernel)) dX4_serves_100 ?_
          refine lv_iload_n hx hb dX4_serves_103 rfl (lv_at hl 0 rfl) ?_
          refine lv_iadd hx hb dX4_serves_104 ?_
          refine mp hx hb hw4 hown hK ha hP hS 37 (by decide) rfl rfl okI (hts (.fieldLink RX4 169 "BackupPowerModel" "ofGenerators" "I") (by decide +kernel)) dX4_serves_105 (fun H locs hP hS => ?_)
          refine lv_iload_n hx hb dX4_serves_108 rfl (lv_at hl 2 rfl) ?_
          refine lv_iload_n hx hb dX4_serves_109 rfl (lv_at hl 0 rfl) ?_
          refine lv_isub hx hb dX4_serves_110 ?_
          refine lv_istore_n (lv' := [(3, .int (v1_7 - p94.1)), (2, .int p94.1), (0, .ref (b 0)), (1, .int v1_7)]) hx hb dX4_serves_111 rfl hl (by decide) rfl (fun ls hl => ?_)
          refine lv_iconst (v := 0) hx hb dX4_serves_112 (by decide) ?_
          refine lv_istore (lv' := [(4, .int 0), (3, .int (v1_7 - p94.1)), (2, .int p94.1), (0, .ref (b 0)), (1, .int v1_7)]) hx hb dX4_serves_113 hl (by decide) rfl (fun ls hl => ?_)
          exact L115 (n.2.1 + 1) 0 (muS p94.2 37 ((p94.2.1 37) + p94.1)) (v1_7 - p94.1) (by omega) (by omega) h _ _ _ hP hS (lv_sub hl [3, 1, 0] rfl)
        · rewrite [if_neg c78] at h
          refine lv_aload_n hx hb dX4_serves_81 rfl (lv_at hl 0 rfl) ?_
          refine lv_dup hx hb dX4_serves_82 rfl ?_
          refine mg hx hb hw4 hown hK hP 36 (by decide) (v := .int (S7.1 36)) rfl (hts (.fieldLink RX4 162 "BackupPowerModel" "ofMains" "I") (by decide +kernel)) dX4_serves_83 ?_
          refine lv_iload_n hx hb dX4_serves_86 rfl (lv_at hl 1 rfl) ?_
          refine lv_iadd hx hb dX4_serves_87 ?_
          refine mp hx hb hw4 hown hK ha hP hS 36 (by decide) rfl rfl okI (hts (.fieldLink RX4 162 "BackupPowerModel" "ofMains" "I") (by decide +kernel)) dX4_serves_88 (fun H locs hP hS => ?_)
          exact gRv (wf := MW G.2 b n) (S := (muS S7 36 ((S7.1 36) + v1_7))) hx hb hr hlocks hP hS h dX4_serves_91
      · have c12 : ¬ n.1 ≤ k7 := fun z => c12 ((nI_leI (a := n.1) (b := k7) (by omega) (by omega)).mpr z)
        rewrite [if_neg c12] at h
        refine lv_aload_n hx hb dX4_serves_15 rfl (lv_at hl 0 rfl) ?_
        refine mg hx hb hw4 hown hK hP 11 (by decide) (v := .ref (b 4)) rfl (hts (.fieldLink RX4 33 "BackupPowerModel" "energies" "[I") (by decide +kernel)) dX4_serves_16 ?_
        refine lv_iload_n hx hb dX4_serves_19 rfl (lv_at hl 2 rfl) ?_
        refine lv_dup2_11 hx hb dX4_serves_20 rfl rfl ?_
        refine mld hx hb hK hP 4 (by decide) (show k7 < 10 by omega) dX4_serves_21 ?_
        refine lv_aload_n hx hb dX4_serves_22 rfl (lv_at hl 0 rfl) ?_
        refine mg hx hb hw4 hown hK hP 10 (by decide) (v := .ref (b 3)) rfl (hts (.fieldLink RX4 30 "BackupPowerModel" "states" "[I") (by decide +kernel)) dX4_serves_23 ?_
        refine lv_iload_n hx hb dX4_serves_26 rfl (lv_at hl 2 rfl) ?_
        refine mld hx hb hK hP 3 (by decide) (show k7 < 10 by omega) dX4_serves_27 ?_
        refine lv_iconst (v := 1) hx hb dX4_serves_28 (by decide) ?_
        refine lv_icmp_ne (tgt := 41) hx hb dX4_serves_29 (by decide) (fun c29 => ?_) (fun c29 => ?_)
        · rewrite [if_neg c29] at h
          refine lv_iconst (v := 0) hx hb dX4_serves_41 (by decide) ?_
          exact J42 S7 v1_7 (S7.2 4 k7) 0 (by omega) h _ _ _ hP hS (lv_sub hl [0, 1, 2] rfl)
        · rewrite [if_pos c29] at h
          refine lv_aload_n hx hb dX4_serves_32 rfl (lv_at hl 0 rfl) ?_
          refine mg hx hb hw4 hown hK hP 9 (by decide) (v := .ref (b 2)) rfl (hts (.fieldLink RX4 27 "BackupPowerModel" "powers" "[I") (by decide +kernel)) dX4_serves_33 ?_
          refine lv_iload_n hx hb dX4_serves_36 rfl (lv_at hl 2 rfl) ?_
          refine mld hx hb hK hP 2 (by decide) (show k7 < 10 by omega) dX4_serves_37 ?_
          refine lv_goto (tgt := 42) hx hb dX4_serves_38 (by decide) ?_
          exact J42 S7 v1_7 (S7.2 4 k7) (S7.2 2 k7) (by omega) h _ _ _ hP hS (lv_sub hl [0, 1, 2] rfl)
  rewrite [f_X4_serves] at h
  refine lv_aload_n hx hb dX4_serves_0 rfl (lv_at hl 0 rfl) ?_
  refine gcVi (wf := MW G.2 b n) (N := 27) (ad := b) (As := []) (rest := []) (S := S) ⟨hx, hb, hml, hown, hts⟩ hK hP hS (c_X4_needed l G b ha n hn S _) (cwV 0 hts gX4_serves_X4_needed rfl rfl rfl (by decide +kernel) ⟨Nat.le_of_ble_eq_true rfl, Nat.le_of_ble_eq_true rfl⟩) (mrO hK hP) rfl hl.1 rfl (Nat.le_of_ble_eq_true rfl) dX4_serves_1 ⟨Nat.le_of_ble_eq_true rfl, Nat.le_of_ble_eq_true rfl⟩ (fun p1 H locs ep1 hP hS => ?_)
  rewrite [← ep1] at h
  rewrite [f_X4_serves_c1] at h
  refine lv_istore_n (lv' := [(1, .int p1.1), (0, .ref (b 0))]) hx hb dX4_serves_4 rfl hl (by decide) rfl (fun ls hl => ?_)
  refine lv_iconst (v := 0) hx hb dX4_serves_5 (by decide) ?_
  refine lv_istore_n (lv' := [(2, .int 0), (1, .int p1.1), (0, .ref (b 0))]) hx hb dX4_serves_6 rfl hl (by decide) rfl (fun ls hl => ?_)
  exact L7 (n.1 + 1) 0 p1.2 p1.1 (by omega) (by omega) h _ _ _ hP hS (lv_sub hl [2, 1, 0] rfl)

def f_X4_charges_b49 (n : Nat × Nat × Nat) (K2 : Nat → MS → MS) (k2 : Nat) (S49 : MS) (s0_49 : Int32) : MS := (K2 (k2 + 1) (muS (muA S49 7 k2 ((S49.2 7 k2) + s0_49)) 39 (((muA S49 7 k2 ((S49.2 7 k2) + s0_49)).1 39) + s0_49)))
def f_X4_charges_c46 (n : Nat × Nat × Nat) (K2 : Nat → MS → MS) (k2 : Nat) (p46 : Int32 × MS) : MS := (f_X4_charges_b49 n K2 k2 p46.2 p46.1)
def f_X4_charges_c29 (n : Nat × Nat × Nat) (K2 : Nat → MS → MS) (k2 : Nat) (p29 : Int32 × MS) : MS := (if (p29.2.1 2) = 0 then (f_X4_charges_c46 n K2 k2 (f_X4_takes n p29.1 p29.2)) else (f_X4_charges_b49 n K2 k2 p29.2 p29.1))
def f_X4_charges_h2 (n : Nat × Nat × Nat) : Nat → Nat → MS → MS
  | 0, _, S2 => S2
  | q + 1, k2, S2 => (if n.2.1 ≤ k2 then S2 else (f_X4_charges_c29 n (f_X4_charges_h2 n q) k2 (f_X4_lesser n (S2.2 9 k2) ((S2.2 6 k2) - (S2.2 7 k2)) S2)))
def f_X4_charges (n : Nat × Nat × Nat) (S : MS) : MS := (f_X4_charges_h2 n (n.2.1 + 1) 0 S)
set_option maxHeartbeats 4000000 in
set_option maxRecDepth 100000 in
theorem c_X4_charges (l : Launch) (G : WG) (b : Nat → Nat) (ha : wInj 27 b) (n : Nat × Nat × Nat) (hn : n.1 ≤ 10 ∧ n.2.1 ≤ 3 ∧ n.2.2 ≤ 3) (S : MS) (sz : Nat) : gMv l yX4_charges wsX4_charges ({ frames := 2, cells := 0, slots := 0, locals := 45 }) G 27 b (MW G.2 b n) [.ref (b 0)] S sz (f_X4_charges n S) := by
  unfold gMv
  refine Met.ofW (cc := cX4_charges) (maxL := 4) (ret := none) (by decide) rfl ?_
  intro p e s m args below meth c s₁ B hml hv
  obtain ⟨rfl, rfl, hP, hK⟩ := hv
  have hx := B.exec
  have hb := B.bytes
  have hr := B.returns
  have hts := atoms_spec (ws := wsX4_charges) B.pre
  have hown : s.vm.findClass RX4 = some m.cls := findClass_of_methodNamed B.named
  have hlocks := B.notSynchronized
  have hS : va_S (wA 27 b s.heap.size) s.heap s.heap [] := va_S.rf
  have hw4 : ∀ w ∈ wsX40, w.before ([.ref (b 0)] : List Value).toArray s = true := fun w hw => hts w ((by decide +kernel : ∀ w ∈ wsX40, w ∈ wsX4_charges) w hw)
  have hl := lv_entry ([.ref (b 0)]) (n := 4) (Nat.le_of_ble_eq_true rfl)
  rw [lg_entry_eq]
  generalize (lg_sl ([.ref (b 0)] : List Value) ++ List.replicate (4 - (lg_sl ([.ref (b 0)] : List Value)).length) Slot.unset).toArray = ls at hl ⊢
  have hl : lv_has ls 4 [(0, .ref (b 0))] := hl
  generalize hF : f_X4_charges n S = F
  have h : f_X4_charges n S = F := hF
  clear hF
  show W p l e ({ frames := 2, cells := 0, slots := 0, locals := 45 } : Room) s m ([.ref (b 0)] : List Value).toArray below meth c s.heap [] 0 0 (gQv below G (MW G.2 b n) 27 b F ([.ref (b 0)] : List Value).toArray s) (F0 m 0 ls [])
  have L2 : ∀ (q2 : Nat) (k2 : Nat) (S2 : MS), k2 ≤ n.2.1 → n.2.1 < k2 + q2 → f_X4_charges_h2 n q2 k2 S2 = F → ∀ (H : Heap) (locs : List Loc) (ls : Array Slot), wM G b n S2 H → va_S (wA 27 b s.heap.size) s.heap H locs → lv_has ls 4 [(0, .ref (b 0)), (1, .int (nI k2))] → W p l e ({ frames := 2, cells := 0, slots := 0, locals := 45 } : Room) s m ([.ref (b 0)] : List Value).toArray below meth c H locs 0 0 (gQv below G (MW G.2 b n) 27 b F ([.ref (b 0)] : List Value).toArray s) (F0 m 2 ls []) := by
    intro q2
    induction q2 with
    | zero => intro k2 S2 hk2 hq2 h H locs ls hP hS hl; omega
    | succ q2 ih2 =>
      intro k2 S2 hk2 hq2 h H locs ls hP hS hl
      have J49 : ∀ (S49 : MS) (s0_49 : Int32), (k2 < n.2.1) → f_X4_charges_b49 n (f_X4_charges_h2 n q2) k2 S49 s0_49 = F → ∀ (H : Heap) (locs : List Loc) (ls : Array Slot), wM G b n S49 H → va_S (wA 27 b s.heap.size) s.heap H locs → lv_has ls 4 [(0, .ref (b 0)), (1, .int (nI k2))] → W p l e ({ frames := 2, cells := 0, slots := 0, locals := 45 } : Room) s m ([.ref (b 0)] : List Value).toArray below meth c H locs 0 0 (gQv below G (MW G.2 b n) 27 b F ([.ref (b 0)] : List Value).toArray s) (F0 m 49 ls [.int s0_49]) := by
        intro S49 s0_49 hkb2 h H locs ls hP hS hl
        rewrite [f_X4_charges_b49] at h
        refine lv_istore_n (lv' := [(3, .int s0_49), (0, .ref (b 0)), (1, .int (nI k2))]) hx hb dX4_charges_49 rfl hl (by decide) rfl (fun ls hl => ?_)
        refine lv_aload_n hx hb dX4_charges_50 rfl (lv_at hl 1 rfl) ?_
        refine mg hx hb hw4 hown hK hP 15 (by decide) (v := .ref (b 7)) rfl (hts (.fieldLink RX4 42 "BackupPowerModel" "charges" "[I") (by decide +kernel)) dX4_charges_51 ?_
        refine lv_iload_n hx hb dX4_charges_54 rfl (lv_at hl 2 rfl) ?_
        refine lv_dup2_11 hx hb dX4_charges_55 rfl rfl ?_
        refine mld hx hb hK hP 7 (by decide) (show k2 < 3 by omega) dX4_charges_56 ?_
        refine lv_iload_n hx hb dX4_charges_57 rfl (lv_at hl 0 rfl) ?_
        refine lv_iadd hx hb dX4_charges_58 ?_
        refine mst hx hb hK ha hP hS 7 (by decide) (show k2 < 3 by omega) dX4_charges_59 (fun H locs hP hS => ?_)
        refine lv_aload_n hx hb dX4_charges_60 rfl (lv_at hl 1 rfl) ?_
        refine lv_dup hx hb dX4_charges_61 rfl ?_
        refine mg hx hb hw4 hown hK hP 39 (by decide) (v := .int ((muA S49 7 k2 ((S49.2 7 k2) + s0_49)).1 39)) rfl (hts (.fieldLink RX4 175 "BackupPowerModel" "toBatteries" "I") (by decide +kernel)) dX4_charges_62 ?_
        refine lv_iload_n hx hb dX4_charges_65 rfl (lv_at hl 0 rfl) ?_
        refine lv_iadd hx hb dX4_charges_66 ?_
        refine mp hx hb hw4 hown hK ha hP hS 39 (by decide) rfl rfl okI (hts (.fieldLink RX4 175 "BackupPowerModel" "toBatteries" "I") (by decide +kernel)) dX4_charges_67 (fun H locs hP hS => ?_)
        refine lv_iinc (k := 2) (v := nI (k2 + 1)) (lv' := [(1, .int (nI (k2 + 1))), (3, .int s0_49), (0, .ref (b 0))]) hx hb dX4_charges_70 hl rfl (nI_inc _) (by decide) rfl (fun ls hl => ?_)
        refine lv_goto (tgt := 2) hx hb dX4_charges_73 (by decide) ?_
        exact ih2 (k2 + 1) (muS (muA S49 7 k2 ((S49.2 7 k2) + s0_49)) 39 (((muA S49 7 k2 ((S49.2 7 k2) + s0_49)).1 39) + s0_49)) (by omega) (by omega) h _ _ _ hP hS (lv_sub hl [2, 0] rfl)
      rewrite [f_X4_charges_h2] at h
      refine lv_iload_n hx hb dX4_charges_2 rfl (lv_at hl 1 rfl) ?_
      refine lv_aload_n hx hb dX4_charges_3 rfl (lv_at hl 0 rfl) ?_
      refine mg hx hb hw4 hown hK hP 13 (by decide) (v := .int (nI n.2.1)) rfl (hts (.fieldLink RX4 116 "BackupPowerModel" "batteryMany" "I") (by decide +kernel)) dX4_charges_4 ?_
      refine lv_icmp_ge (tgt := 76) hx hb dX4_charges_7 (by decide) (fun c7 => ?_) (fun c7 => ?_)
      · have c7 : n.2.1 ≤ k2 := (nI_leI (a := n.2.1) (b := k2) (by omega) (by omega)).mp c7
        rewrite [if_pos c7] at h
        exact gRv (wf := MW G.2 b n) (S := S2) hx hb hr hlocks hP hS h dX4_charges_76
      · have c7 : ¬ n.2.1 ≤ k2 := fun z => c7 ((nI_leI (a := n.2.1) (b := k2) (by omega) (by omega)).mpr z)
        rewrite [if_neg c7] at h
        refine lv_aload_n hx hb dX4_charges_10 rfl (lv_at hl 0 rfl) ?_
        refine mg hx hb hw4 hown hK hP 17 (by decide) (v := .ref (b 9)) rfl (hts (.fieldLink RX4 48 "BackupPowerModel" "chargings" "[I") (by decide +kernel)) dX4_charges_11 ?_
        refine lv_iload_n hx hb dX4_charges_14 rfl (lv_at hl 1 rfl) ?_
        refine mld hx hb hK hP 9 (by decide) (show k2 < 3 by omega) dX4_charges_15 ?_
        refine lv_aload_n hx hb dX4_charges_16 rfl (lv_at hl 0 rfl) ?_
        refine mg hx hb hw4 hown hK hP 14 (by decide) (v := .ref (b 6)) rfl (hts (.fieldLink RX4 39 "BackupPowerModel" "capacities" "[I") (by decide +kernel)) dX4_charges_17 ?_
        refine lv_iload_n hx hb dX4_charges_20 rfl (lv_at hl 1 rfl) ?_
        refine mld hx hb hK hP 6 (by decide) (show k2 < 3 by omega) dX4_charges_21 ?_
        refine lv_aload_n hx hb dX4_charges_22 rfl (lv_at hl 0 rfl) ?_
        refine mg hx hb hw4 hown hK hP 15 (by decide) (v := .ref (b 7)) rfl (hts (.fieldLink RX4 42 "BackupPowerModel" "charges" "[I") (by decide +kernel)) dX4_charges_23 ?_
        refine lv_iload_n hx hb dX4_charges_26 rfl (lv_at hl 1 rfl) ?_
        refine mld hx hb hK hP 7 (by decide) (show k2 < 3 by omega) dX4_charges_27 ?_
        refine lv_isub hx hb dX4_charges_28 ?_
        refine gcSi (wf := MW G.2 b n) (N := 27) (ad := b) (As := [.int (S2.2 9 k2), .int ((S2.2 6 k2) - (S2.2 7 k2))]) (rest := []) (S := S2) ⟨hx, hb, hml, hown, hts⟩ hK hP hS (c_X4_lesser l G b ha n hn (S2.2 9 k2) ((S2.2 6 k2) - (S2.2 7 k2)) S2 _) (va_cwS 2 hts gX4_charges_X4_lesser rfl rfl rfl (by decide +kernel) ⟨Nat.le_of_ble_eq_true rfl, Nat.le_of_ble_eq_true rfl⟩) rfl hl.1 rfl (Nat.le_of_ble_eq_true rfl) dX4_charges_29 ⟨Nat.le_of_ble_eq_true rfl, Nat.le_of_ble_eq_true rfl⟩ (fun p29 H locs ep29 hP hS => ?_)
        rewrite [← ep29] at h
        rewrite [f_X4_charges_c29] at h
        refine lv_istore_n (lv' := [(2, .int p29.1), (0, .ref (b 0)), (1, .int (nI k2))]) hx hb dX4_charges_32 rfl hl (by decide) rfl (fun ls hl => ?_)
        refine lv_aload_n hx hb dX4_charges_33 rfl (lv_at hl 1 rfl) ?_
        refine mg hx hb hw4 hown hK hP 2 (by decide) (v := .int (p29.2.1 2)) rfl (hts (.fieldLink RX4 7 "BackupPowerModel" "areUp" "Z") (by decide +kernel)) dX4_charges_34 ?_
        refine lv_if_eq (tgt := 44) hx hb dX4_charges_37 (by decide) (fun c37 => ?_) (fun c37 => ?_)
        · rewrite [if_pos c37] at h
          refine lv_aload_n hx hb dX4_charges_44 rfl (lv_at hl 1 rfl) ?_
          refine lv_iload_n hx hb dX4_charges_45 rfl (lv_at hl 0 rfl) ?_
          refine gcVi (wf := MW G.2 b n) (N := 27) (ad := b) (As := [.int p29.1]) (rest := []) (S := p29.2) ⟨hx, hb, hml, hown, hts⟩ hK hP hS (c_X4_takes l G b ha n hn p29.1 p29.2 _) (cwV 1 hts gX4_charges_X4_takes rfl rfl rfl (by decide +kernel) ⟨Nat.le_of_ble_eq_true rfl, Nat.le_of_ble_eq_true rfl⟩) (mrO hK hP) rfl hl.1 rfl (Nat.le_of_ble_eq_true rfl) dX4_charges_46 ⟨Nat.le_of_ble_eq_true rfl, Nat.le_of_ble_eq_true rfl⟩ (fun p46 H locs ep46 hP hS => ?_)
          rewrite [← ep46] at h
          rewrite [f_X4_charges_c46] at h
          exact J49 p46.2 p46.1 (by omega) h _ _ _ hP hS (lv_sub hl [1, 2] rfl)
        · rewrite [if_neg c37] at h
          refine lv_iload_n hx hb dX4_charges_40 rfl (lv_at hl 0 rfl) ?_
          refine lv_goto (tgt := 49) hx hb dX4_charges_41 (by decide) ?_
          exact J49 p29.2 p29.1 (by omega) h _ _ _ hP hS (lv_sub hl [1, 2] rfl)
  rewrite [f_X4_charges] at h
  refine lv_iconst (v := 0) hx hb dX4_charges_0 (by decide) ?_
  refine lv_istore_n (lv' := [(1, .int 0), (0, .ref (b 0))]) hx hb dX4_charges_1 rfl hl (by decide) rfl (fun ls hl => ?_)
  exact L2 (n.2.1 + 1) 0 S (by omega) (by omega) h _ _ _ hP hS (lv_sub hl [1, 0] rfl)

def f_X4_wears_b112 (n : Nat × Nat × Nat) (K2 : Nat → MS → MS) (k2 : Nat) (S112 : MS) : MS := (K2 (k2 + 1) S112)
def f_X4_wears_c109 (n : Nat × Nat × Nat) (K2 : Nat → MS → MS) (k2 : Nat) (p109 : MS) : MS := (f_X4_wears_b112 n K2 k2 p109)
def f_X4_wears_b105 (n : Nat × Nat × Nat) (K2 : Nat → MS → MS) (k2 : Nat) (S105 : MS) (s2_105 : Int32) (s3_105 : Int32) : MS := (f_X4_wears_c109 n K2 k2 (f_X4_stops n k2 (muA S105 26 k2 (s2_105 + s3_105))))
def f_X4_wears_c70 (n : Nat × Nat × Nat) (K2 : Nat → MS → MS) (k2 : Nat) (S55 : MS) (p70 : Int32 × MS) : MS := (if ((muA p70.2 15 k2 ((S55.2 15 k2) - p70.1)).2 15 k2) = 0 then (if ((muA p70.2 15 k2 ((S55.2 15 k2) - p70.1)).2 17 k2) = 0 then (f_X4_wears_b105 n K2 k2 (muA p70.2 15 k2 ((S55.2 15 k2) - p70.1)) ((muA p70.2 15 k2 ((S55.2 15 k2) - p70.1)).2 26 k2) 0) else (f_X4_wears_b105 n K2 k2 (muA p70.2 15 k2 ((S55.2 15 k2) - p70.1)) ((muA p70.2 15 k2 ((S55.2 15 k2) - p70.1)).2 26 k2) 1)) else (f_X4_wears_b112 n K2 k2 (muA p70.2 15 k2 ((S55.2 15 k2) - p70.1))))
def f_X4_wears_b55 (n : Nat × Nat × Nat) (K2 : Nat → MS → MS) (k2 : Nat) (S55 : MS) (s0_55 : Int32) : MS := (f_X4_wears_c70 n K2 k2 S55 (f_X4_lesser n s0_55 (S55.2 15 k2) S55))
def f_X4_wears_b168 (n : Nat × Nat × Nat) (K120 : Nat → MS → MS) (k120 : Nat) (S168 : MS) (s2_168 : Int32) (s3_168 : Int32) : MS := (K120 (k120 + 1) (muA S168 6 k120 (s2_168 - s3_168)))
def f_X4_wears_b167 (n : Nat × Nat × Nat) (K120 : Nat → MS → MS) (k120 : Nat) (S167 : MS) (s2_167 : Int32) : MS := (f_X4_wears_b168 n K120 k120 S167 s2_167 0)
def f_X4_wears_h120 (n : Nat × Nat × Nat) : Nat → Nat → MS → MS
  | 0, _, S120 => S120
  | q + 1, k120, S120 => (if n.2.1 ≤ k120 then S120 else (if (S120.2 10 k120) ≤ 0 then (f_X4_wears_b167 n (f_X4_wears_h120 n q) k120 S120 (S120.2 6 k120)) else (if (S120.2 7 k120) = 0 then (if (S120.2 6 k120) ≤ 1 then (f_X4_wears_b167 n (f_X4_wears_h120 n q) k120 S120 (S120.2 6 k120)) else (f_X4_wears_b168 n (f_X4_wears_h120 n q) k120 S120 (S120.2 6 k120) 1)) else (f_X4_wears_b167 n (f_X4_wears_h120 n q) k120 S120 (S120.2 6 k120)))))
def f_X4_wears_h2 (n : Nat × Nat × Nat) : Nat → Nat → MS → MS
  | 0, _, S2 => S2
  | q + 1, k2, S2 => (if n.2.2 ≤ k2 then (f_X4_wears_h120 n (n.2.1 + 1) 0 S2) else (if (S2.2 16 k2) = 2 then (if ((muA S2 19 k2 ((S2.2 19 k2) + 1)).2 20 k2) = 0 then (f_X4_wears_b55 n (f_X4_wears_h2 n q) k2 (muA S2 19 k2 ((S2.2 19 k2) + 1)) 1) else (f_X4_wears_b55 n (f_X4_wears_h2 n q) k2 (muA S2 19 k2 ((S2.2 19 k2) + 1)) ((((muA S2 19 k2 ((S2.2 19 k2) + 1)).2 20 k2) + 49) / 50))) else (f_X4_wears_b112 n (f_X4_wears_h2 n q) k2 S2)))
def f_X4_wears (n : Nat × Nat × Nat) (S : MS) : MS := (f_X4_wears_h2 n (n.2.2 + 1) 0 S)
set_option maxHeartbeats 4000000 in
set_option maxRecDepth 100000 in
theorem c_X4_wears (l : Launch) (G : WG) (b : Nat → Nat) (ha : wInj 27 b) (n : Nat × Nat × Nat) (hn : n.1 ≤ 10 ∧ n.2.1 ≤ 3 ∧ n.2.2 ≤ 3) (S : MS) (sz : Nat) : gMv l yX4_wears wsX4_wears ({ frames := 1, cells := 0, slots := 0, locals := 21 }) G 27 b (MW G.2 b n) [.ref (b 0)] S sz (f_X4_wears n S) := by
  unfold gMv
  refine Met.ofW (cc := cX4_wears) (maxL := 3) (ret := none) (by decide) rfl ?_
  intro p e s m args below meth c s₁ B hml hv
  obtain ⟨rfl, rfl, hP, hK⟩ := hv
  have hx := B.exec
  have hb := B.bytes
  have hr := B.returns
  have hts := atoms_spec (ws := wsX4_wears) B.pre
  have hown : s.vm.findClass RX4 = some m.cls := findClass_of_methodNamed B.named
  have hlocks := B.notSynchronized
  have hS : va_S (wA 27 b s.heap.size) s.heap s.heap [] := va_S.rf
  have hw4 : ∀ w ∈ wsX40, w.before ([.ref (b 0)] : List Value).toArray s = true := fun w hw => hts w ((by decide +kernel : ∀ w ∈ wsX40, w ∈ wsX4_wears) w hw)
  have hl := lv_entry ([.ref (b 0)]) (n := 3) (Nat.le_of_ble_eq_true rfl)
  rw [lg_entry_eq]
  generalize (lg_sl ([.ref (b 0)] : List Value) ++ List.replicate (3 - (lg_sl ([.ref (b 0)] : List Value)).length) Slot.unset).toArray = ls at hl ⊢
  have hl : lv_has ls 3 [(0, .ref (b 0))] := hl
  generalize hF : f_X4_wears n S = F
  have h : f_X4_wears n S = F := hF
  clear hF
  show W p l e ({ frames := 1, cells := 0, slots := 0, locals := 21 } : Room) s m ([.ref (b 0)] : List Value).toArray below meth c s.heap [] 0 0 (gQv below G (MW G.2 b n) 27 b F ([.ref (b 0)] : List Value).toArray s) (F0 m 0 ls [])
  have L2 : ∀ (q2 : Nat) (k2 : Nat) (S2 : MS), k2 ≤ n.2.2 → n.2.2 < k2 + q2 → f_X4_wears_h2 n q2 k2 S2 = F → ∀ (H : Heap) (locs : List Loc) (ls : Array Slot), wM G b n S2 H → va_S (wA 27 b s.heap.size) s.heap H locs → lv_has ls 3 [(0, .ref (b 0)), (1, .int (nI k2))] → W p l e ({ frames := 1, cells := 0, slots := 0, locals := 21 } : Room) s m ([.ref (b 0)] : List Value).toArray below meth c H locs 0 0 (gQv below G (MW G.2 b n) 27 b F ([.ref (b 0)] : List Value).toArray s) (F0 m 2 ls []) := by
    intro q2
    induction q2 with
    | zero => intro k2 S2 hk2 hq2 h H locs ls hP hS hl; omega
    | succ q2 ih2 =>
      intro k2 S2 hk2 hq2 h H locs ls hP hS hl
      have J112 : ∀ (S112 : MS), (k2 < n.2.2) → f_X4_wears_b112 n (f_X4_wears_h2 n q2) k2 S112 = F → ∀ (H : Heap) (locs : List Loc) (ls : Array Slot), wM G b n S112 H → va_S (wA 27 b s.heap.size) s.heap H locs → lv_has ls 3 [(0, .ref (b 0)), (1, .int (nI k2))] → W p l e ({ frames := 1, cells := 0, slots := 0, locals := 21 } : Room) s m ([.ref (b 0)] : List Value).toArray below meth c H locs 0 0 (gQv below G (MW G.2 b n) 27 b F ([.ref (b 0)] : List Value).toArray s) (F0 m 112 ls []) := by
        intro S112 hkb2 h H locs ls hP hS hl
        rewrite [f_X4_wears_b112] at h
        refine lv_iinc (k := 1) (v := nI (k2 + 1)) (lv' := [(1, .int (nI (k2 + 1))), (0, .ref (b 0))]) hx hb dX4_wears_112 hl rfl (nI_inc _) (by decide) rfl (fun ls hl => ?_)
        refine lv_goto (tgt := 2) hx hb dX4_wears_115 (by decide) ?_
        exact ih2 (k2 + 1) S112 (by omega) (by omega) h _ _ _ hP hS (lv_sub hl [1, 0] rfl)
      have J55 : ∀ (S55 : MS) (s0_55 : Int32), (k2 < n.2.2) → f_X4_wears_b55 n (f_X4_wears_h2 n q2) k2 S55 s0_55 = F → ∀ (H : Heap) (locs : List Loc) (ls : Array Slot), wM G b n S55 H → va_S (wA 27 b s.heap.size) s.heap H locs → lv_has ls 3 [(0, .ref (b 0)), (1, .int (nI k2))] → W p l e ({ frames := 1, cells := 0, slots := 0, locals := 21 } : Room) s m ([.ref (b 0)] : List Value).toArray below meth c H locs 0 0 (gQv below G (MW G.2 b n) 27 b F ([.ref (b 0)] : List Value).toArray s) (F0 m 55 ls [.int s0_55]) := by
        intro S55 s0_55 hkb2 h H locs ls hP hS hl
        have J105 : ∀ (S105 : MS) (s2_105 : Int32) (s3_105 : Int32), (isB s3_105) → (k2 < n.2.2) → f_X4_wears_b105 n (f_X4_wears_h2 n q2) k2 S105 s2_105 s3_105 = F → ∀ (H : Heap) (locs : List Loc) (ls : Array Slot), wM G b n S105 H → va_S (wA 27 b s.heap.size) s.heap H locs → lv_has ls 3 [(0, .ref (b 0)), (1, .int (nI k2))] → W p l e ({ frames := 1, cells := 0, slots := 0, locals := 21 } : Room) s m ([.ref (b 0)] : List Value).toArray below meth c H locs 0 0 (gQv below G (MW G.2 b n) 27 b F ([.ref (b 0)] : List Value).toArray s) (F0 m 105 ls [.int s3_105, .int s2_105, .int (nI k2), .ref (b 26)]) := by
          intro S105 s2_105 s3_105 hbs3_105 hkb2 h H locs ls hP hS hl
          rewrite [f_X4_wears_b105] at h
          refine lv_iadd hx hb dX4_wears_105 ?_
          refine mst hx hb hK ha hP hS 26 (by decide) (show k2 < 3 by omega) dX4_wears_106 (fun H locs hP hS => ?_)
          refine lv_aload_n hx hb dX4_wears_107 rfl (lv_at hl 0 rfl) ?_
          refine lv_iload_n hx hb dX4_wears_108 rfl (lv_at hl 1 rfl) ?_
          refine gcVv (wf := MW G.2 b n) (N := 27) (ad := b) (As := [.int (nI k2)]) (rest := []) (S := muA S105 26 k2 (s2_105 + s3_105)) ⟨hx, hb, hml, hown, hts⟩ hK hP hS (c_X4_stops l G b ha n hn k2 (by omega) (muA S105 26 k2 (s2_105 + s3_105)) _) (cwV 1 hts gX4_wears_X4_stops rfl rfl rfl (by decide +kernel) ⟨Nat.le_of_ble_eq_true rfl, Nat.le_of_ble_eq_true rfl⟩) (mrO hK hP) rfl hl.1 rfl (Nat.le_of_ble_eq_true rfl) dX4_wears_109 ⟨Nat.le_of_ble_eq_true rfl, Nat.le_of_ble_eq_true rfl⟩ (fun p109 H locs ep109 hP hS => ?_)
          rewrite [← ep109] at h
          rewrite [f_X4_wears_c109] at h
          exact J112 p109 (by omega) h _ _ _ hP hS (lv_sub hl [0, 1] rfl)
        rewrite [f_X4_wears_b55] at h
        refine lv_istore_n (lv' := [(2, .int s0_55), (0, .ref (b 0)), (1, .int (nI k2))]) hx hb dX4_wears_55 rfl hl (by decide) rfl (fun ls hl => ?_)
        refine lv_aload_n hx hb dX4_wears_56 rfl (lv_at hl 1 rfl) ?_
        refine mg hx hb hw4 hown hK hP 24 (by decide) (v := .ref (b 15)) rfl (hts (.fieldLink RX4 66 "BackupPowerModel" "fuels" "[I") (by decide +kernel)) dX4_wears_57 ?_
        refine lv_iload_n hx hb dX4_wears_60 rfl (lv_at hl 2 rfl) ?_
        refine lv_dup2_11 hx hb dX4_wears_61 rfl rfl ?_
        refine mld hx hb hK hP 15 (by decide) (show k2 < 3 by omega) dX4_wears_62 ?_
        refine lv_iload_n hx hb dX4_wears_63 rfl (lv_at hl 0 rfl) ?_
        refine lv_aload_n hx hb dX4_wears_64 rfl (lv_at hl 1 rfl) ?_
        refine mg hx hb hw4 hown hK hP 24 (by decide) (v := .ref (b 15)) rfl (hts (.fieldLink RX4 66 "BackupPowerModel" "fuels" "[I") (by decide +kernel)) dX4_wears_65 ?_
        refine lv_iload_n hx hb dX4_wears_68 rfl (lv_at hl 2 rfl) ?_
        refine mld hx hb hK hP 15 (by decide) (show k2 < 3 by omega) dX4_wears_69 ?_
        refine gcSi (wf := MW G.2 b n) (N := 27) (ad := b) (As := [.int s0_55, .int (S55.2 15 k2)]) (rest := [.int (S55.2 15 k2), .int (nI k2), .ref (b 15)]) (S := S55) ⟨hx, hb, hml, hown, hts⟩ hK hP hS (c_X4_lesser l G b ha n hn s0_55 (S55.2 15 k2) S55 _) (va_cwS 2 hts gX4_wears_X4_lesser rfl rfl rfl (by decide +kernel) ⟨Nat.le_of_ble_eq_true rfl, Nat.le_of_ble_eq_true rfl⟩) rfl hl.1 rfl (Nat.le_of_ble_eq_true rfl) dX4_wears_70 ⟨Nat.le_of_ble_eq_true rfl, Nat.le_of_ble_eq_true rfl⟩ (fun p70 H locs ep70 hP hS => ?_)
        rewrite [← ep70] at h
        rewrite [f_X4_wears_c70] at h
        refine lv_isub hx hb dX4_wears_73 ?_
        refine mst hx hb hK ha hP hS 15 (by decide) (show k2 < 3 by omega) dX4_wears_74 (fun H locs hP hS => ?_)
        refine lv_aload_n hx hb dX4_wears_75 rfl (lv_at hl 1 rfl) ?_
        refine mg hx hb hw4 hown hK hP 24 (by decide) (v := .ref (b 15)) rfl (hts (.fieldLink RX4 66 "BackupPowerModel" "fuels" "[I") (by decide +kernel)) dX4_wears_76 ?_
        refine lv_iload_n hx hb dX4_wears_79 rfl (lv_at hl 2 rfl) ?_
        refine mld hx hb hK hP 15 (by decide) (show k2 < 3 by omega) dX4_wears_80 ?_
        refine lv_if_ne (tgt := 112) hx hb dX4_wears_81 (by decide) (fun c81 => ?_) (fun c81 => ?_)
        · rewrite [if_neg c81] at h
          exact J112 (muA p70.2 15 k2 ((S55.2 15 k2) - p70.1)) (by omega) h _ _ _ hP hS (lv_sub hl [1, 2] rfl)
        · rewrite [if_pos c81] at h
          refine lv_aload_n hx hb dX4_wears_84 rfl (lv_at hl 1 rfl) ?_
          refine mg hx hb hw4 hown hK hP 35 (by decide) (v := .ref (b 26)) rfl (hts (.fieldLink RX4 100 "BackupPowerModel" "failedTests" "[I") (by decide +kernel)) dX4_wears_85 ?_
          refine lv_iload_n hx hb dX4_wears_88 rfl (lv_at hl 2 rfl) ?_
          refine lv_dup2_11 hx hb dX4_wears_89 rfl rfl ?_
          refine mld hx hb hK hP 26 (by decide) (show k2 < 3 by omega) dX4_wears_90 ?_
          refine lv_aload_n hx hb dX4_wears_91 rfl (lv_at hl 1 rfl) ?_
          refine mg hx hb hw4 hown hK hP 26 (by decide) (v := .ref (b 17)) rfl (hts (.fieldLink RX4 72 "BackupPowerModel" "isTest" "[Z") (by decide +kernel)) dX4_wears_92 ?_
          refine lv_iload_n hx hb dX4_wears_95 rfl (lv_at hl 2 rfl) ?_
          refine mzld hx hb hK hP (show k2 < 3 by omega) dX4_wears_96 ?_
          refine lv_if_eq (tgt := 104) hx hb dX4_wears_97 (by decide) (fun c97 => ?_) (fun c97 => ?_)
          · rewrite [if_pos c97] at h
            refine lv_iconst (v := 0) hx hb dX4_wears_104 (by decide) ?_
            exact J105 (muA p70.2 15 k2 ((S55.2 15 k2) - p70.1)) ((muA p70.2 15 k2 ((S55.2 15 k2) - p70.1)).2 26 k2) 0 isB_0 (by omega) h _ _ _ hP hS (lv_sub hl [1, 2] rfl)
          · rewrite [if_neg c97] at h
            refine lv_iconst (v := 1) hx hb dX4_wears_100 (by decide) ?_
            refine lv_goto (tgt := 105) hx hb dX4_wears_101 (by decide) ?_
            exact J105 (muA p70.2 15 k2 ((S55.2 15 k2) - p70.1)) ((muA p70.2 15 k2 ((S55.2 15 k2) - p70.1)).2 26 k2) 1 isB_1 (by omega) h _ _ _ hP hS (lv_sub hl [1, 2] rfl)
      have L120 : ∀ (q120 : Nat) (k120 : Nat) (S120 : MS), k120 ≤ n.2.1 → n.2.1 < k120 + q120 → f_X4_wears_h120 n q120 k120 S120 = F → ∀ (H : Heap) (locs : List Loc) (ls : Array Slot), wM G b n S120 H → va_S (wA 27 b s.heap.size) s.heap H locs → lv_has ls 3 [(0, .ref (b 0)), (1, .int (nI k120))] → W p l e ({ frames := 1, cells := 0, slots := 0, locals := 21 } : Room) s m ([.ref (b 0)] : List Value).toArray below meth c H locs 0 0 (gQv below G (MW G.2 b n) 27 b F ([.ref (b 0)] : List Value).toArray s) (F0 m 120 ls []) := by
        intro q120
        induction q120 with
        | zero => intro k120 S120 hk120 hq120 h H locs ls hP hS hl; omega
        | succ q120 ih120 =>
          intro k120 S120 hk120 hq120 h H locs ls hP hS hl
          have J168 : ∀ (S168 : MS) (s2_168 : Int32) (s3_168 : Int32), (isB s3_168) → (k120 < n.2.1) → f_X4_wears_b168 n (f_X4_wears_h120 n q120) k120 S168 s2_168 s3_168 = F → ∀ (H : Heap) (locs : List Loc) (ls : Array Slot), wM G b n S168 H → va_S (wA 27 b s.heap.size) s.heap H locs → lv_has ls 3 [(0, .ref (b 0)), (1, .int (nI k120))] → W p l e ({ frames := 1, cells := 0, slots := 0, locals := 21 } : Room) s m ([.ref (b 0)] : List Value).toArray below meth c H locs 0 0 (gQv below G (MW G.2 b n) 27 b F ([.ref (b 0)] : List Value).toArray s) (F0 m 168 ls [.int s3_168, .int s2_168, .int (nI k120), .ref (b 6)]) := by
            intro S168 s2_168 s3_168 hbs3_168 hkb120 h H locs ls hP hS hl
            rewrite [f_X4_wears_b168] at h
            refine lv_isub hx hb dX4_wears_168 ?_
            refine mst hx hb hK ha hP hS 6 (by decide) (show k120 < 3 by omega) dX4_wears_169 (fun H locs hP hS => ?_)
            refine lv_iinc (k := 1) (v := nI (k120 + 1)) (lv' := [(1, .int (nI (k120 + 1))), (0, .ref (b 0))]) hx hb dX4_wears_170 hl rfl (nI_inc _) (by decide) rfl (fun ls hl => ?_)
            refine lv_goto (tgt := 120) hx hb dX4_wears_173 (by decide) ?_
            exact ih120 (k120 + 1) (muA S168 6 k120 (s2_168 - s3_168)) (by omega) (by omega) h _ _ _ hP hS (lv_sub hl [1, 0] rfl)
          have J167 : ∀ (S167 : MS) (s2_167 : Int32), (k120 < n.2.1) → f_X4_wears_b167 n (f_X4_wears_h120 n q120) k120 S167 s2_167 = F → ∀ (H : Heap) (locs : List Loc) (ls : Array Slot), wM G b n S167 H → va_S (wA 27 b s.heap.size) s.heap H locs → lv_has ls 3 [(0, .ref (b 0)), (1, .int (nI k120))] → W p l e ({ frames := 1, cells := 0, slots := 0, locals := 21 } : Room) s m ([.ref (b 0)] : List Value).toArray below meth c H locs 0 0 (gQv below G (MW G.2 b n) 27 b F ([.ref (b 0)] : List Value).toArray s) (F0 m 167 ls [.int s2_167, .int (nI k120), .ref (b 6)]) := by
            intro S167 s2_167 hkb120 h H locs ls hP hS hl
            rewrite [f_X4_wears_b167] at h
            refine lv_iconst (v := 0) hx hb dX4_wears_167 (by decide) ?_
            exact J168 S167 s2_167 0 isB_0 (by omega) h _ _ _ hP hS (lv_sub hl [0, 1] rfl)
          rewrite [f_X4_wears_h120] at h
          refine lv_iload_n hx hb dX4_wears_120 rfl (lv_at hl 1 rfl) ?_
          refine lv_aload_n hx hb dX4_wears_121 rfl (lv_at hl 0 rfl) ?_
          refine mg hx hb hw4 hown hK hP 13 (by decide) (v := .int (nI n.2.1)) rfl (hts (.fieldLink RX4 116 "BackupPowerModel" "batteryMany" "I") (by decide +kernel)) dX4_wears_122 ?_
          refine lv_icmp_ge (tgt := 176) hx hb dX4_wears_125 (by decide) (fun c125 => ?_) (fun c125 => ?_)
          · have c125 : n.2.1 ≤ k120 := (nI_leI (a := n.2.1) (b := k120) (by omega) (by omega)).mp c125
            rewrite [if_pos c125] at h
            exact gRv (wf := MW G.2 b n) (S := S120) hx hb hr hlocks hP hS h dX4_wears_176
          · have c125 : ¬ n.2.1 ≤ k120 := fun z => c125 ((nI_leI (a := n.2.1) (b := k120) (by omega) (by omega)).mpr z)
            rewrite [if_neg c125] at h
            refine lv_aload_n hx hb dX4_wears_128 rfl (lv_at hl 0 rfl) ?_
            refine mg hx hb hw4 hown hK hP 14 (by decide) (v := .ref (b 6)) rfl (hts (.fieldLink RX4 39 "BackupPowerModel" "capacities" "[I") (by decide +kernel)) dX4_wears_129 ?_
            refine lv_iload_n hx hb dX4_wears_132 rfl (lv_at hl 1 rfl) ?_
            refine lv_dup2_11 hx hb dX4_wears_133 rfl rfl ?_
            refine mld hx hb hK hP 6 (by decide) (show k120 < 3 by omega) dX4_wears_134 ?_
            refine lv_aload_n hx hb dX4_wears_135 rfl (lv_at hl 0 rfl) ?_
            refine mg hx hb hw4 hown hK hP 18 (by decide) (v := .ref (b 10)) rfl (hts (.fieldLink RX4 51 "BackupPowerModel" "ahead" "[I") (by decide +kernel)) dX4_wears_136 ?_
            refine lv_iload_n hx hb dX4_wears_139 rfl (lv_at hl 1 rfl) ?_
            refine mld hx hb hK hP 10 (by decide) (show k120 < 3 by omega) dX4_wears_140 ?_
            refine lv_if_le (tgt := 167) hx hb dX4_wears_141 (by decide) (fun c141 => ?_) (fun c141 => ?_)
            · rewrite [if_pos c141] at h
              exact J167 S120 (S120.2 6 k120) (by omega) h _ _ _ hP hS (lv_sub hl [0, 1] rfl)
            · rewrite [if_neg c141] at h
              refine lv_aload_n hx hb dX4_wears_144 rfl (lv_at hl 0 rfl) ?_
              refine mg hx hb hw4 hown hK hP 15 (by decide) (v := .ref (b 7)) rfl (hts (.fieldLink RX4 42 "BackupPowerModel" "charges" "[I") (by decide +kernel)) dX4_wears_145 ?_
              refine lv_iload_n hx hb dX4_wears_148 rfl (lv_at hl 1 rfl) ?_
              refine mld hx hb hK hP 7 (by decide) (show k120 < 3 by omega) dX4_wears_149 ?_
              refine lv_if_ne (tgt := 167) hx hb dX4_wears_150 (by decide) (fun c150 => ?_) (fun c150 => ?_)
              · rewrite [if_neg c150] at h
                exact J167 S120 (S120.2 6 k120) (by omega) h _ _ _ hP hS (lv_sub hl [0, 1] rfl)
              · rewrite [if_pos c150] at h
                refine lv_aload_n hx hb dX4_wears_153 rfl (lv_at hl 0 rfl) ?_
                refine mg hx hb hw4 hown hK hP 14 (by decide) (v := .ref (b 6)) rfl (hts (.fieldLink RX4 39 "BackupPowerModel" "capacities" "[I") (by decide +kernel)) dX4_wears_154 ?_
                refine lv_iload_n hx hb dX4_wears_157 rfl (lv_at hl 1 rfl) ?_
                refine mld hx hb hK hP 6 (by decide) (show k120 < 3 by omega) dX4_wears_158 ?_
                refine lv_iconst (v := 1) hx hb dX4_wears_159 (by decide) ?_
                refine lv_icmp_le (tgt := 167) hx hb dX4_wears_160 (by decide) (fun c160 => ?_) (fun c160 => ?_)
                · rewrite [if_pos c160] at h
                  exact J167 S120 (S120.2 6 k120) (by omega) h _ _ _ hP hS (lv_sub hl [0, 1] rfl)
                · rewrite [if_neg c160] at h
                  refine lv_iconst (v := 1) hx hb dX4_wears_163 (by decide) ?_
                  refine lv_goto (tgt := 168) hx hb dX4_wears_164 (by decide) ?_
                  exact J168 S120 (S120.2 6 k120) 1 isB_1 (by omega) h _ _ _ hP hS (lv_sub hl [0, 1] rfl)
      rewrite [f_X4_wears_h2] at h
      refine lv_iload_n hx hb dX4_wears_2 rfl (lv_at hl 1 rfl) ?_
      refine lv_aload_n hx hb dX4_wears_3 rfl (lv_at hl 0 rfl) ?_
      refine mg hx hb hw4 hown hK hP 20 (by decide) (v := .int (nI n.2.2)) rfl (hts (.fieldLink RX4 113 "BackupPowerModel" "generatorMany" "I") (by decide +kernel)) dX4_wears_4 ?_
      refine lv_icmp_ge (tgt := 118) hx hb dX4_wears_7 (by decide) (fun c7 => ?_) (fun c7 => ?_)
      · have c7 : n.2.2 ≤ k2 := (nI_leI (a := n.2.2) (b := k2) (by omega) (by omega)).mp c7
        rewrite [if_pos c7] at h
        refine lv_iconst (v := 0) hx hb dX4_wears_118 (by decide) ?_
        refine lv_istore_n (lv' := [(1, .int 0), (0, .ref (b 0))]) hx hb dX4_wears_119 rfl hl (by decide) rfl (fun ls hl => ?_)
        exact L120 (n.2.1 + 1) 0 S2 (by omega) (by omega) h _ _ _ hP hS (lv_sub hl [1, 0] rfl)
      · have c7 : ¬ n.2.2 ≤ k2 := fun z => c7 ((nI_leI (a := n.2.2) (b := k2) (by omega) (by omega)).mpr z)
        rewrite [if_neg c7] at h
        refine lv_aload_n hx hb dX4_wears_10 rfl (lv_at hl 0 rfl) ?_
        refine mg hx hb hw4 hown hK hP 25 (by decide) (v := .ref (b 16)) rfl (hts (.fieldLink RX4 69 "BackupPowerModel" "modes" "[I") (by decide +kernel)) dX4_wears_11 ?_
        refine lv_iload_n hx hb dX4_wears_14 rfl (lv_at hl 1 rfl) ?_
        refine mld hx hb hK hP 16 (by decide) (show k2 < 3 by omega) dX4_wears_15 ?_
        refine lv_iconst (v := 2) hx hb dX4_wears_16 (by decide) ?_
        refine lv_icmp_ne (tgt := 112) hx hb dX4_wears_17 (by decide) (fun c17 => ?_) (fun c17 => ?_)
        · rewrite [if_neg c17] at h
          exact J112 S2 (by omega) h _ _ _ hP hS (lv_sub hl [0, 1] rfl)
        · rewrite [if_pos c17] at h
          refine lv_aload_n hx hb dX4_wears_20 rfl (lv_at hl 0 rfl) ?_
          refine mg hx hb hw4 hown hK hP 28 (by decide) (v := .ref (b 19)) rfl (hts (.fieldLink RX4 79 "BackupPowerModel" "ran" "[I") (by decide +kernel)) dX4_wears_21 ?_
          refine lv_iload_n hx hb dX4_wears_24 rfl (lv_at hl 1 rfl) ?_
          refine lv_dup2_11 hx hb dX4_wears_25 rfl rfl ?_
          refine mld hx hb hK hP 19 (by decide) (show k2 < 3 by omega) dX4_wears_26 ?_
          refine lv_iconst (v := 1) hx hb dX4_wears_27 (by decide) ?_
          refine lv_iadd hx hb dX4_wears_28 ?_
          refine mst hx hb hK ha hP hS 19 (by decide) (show k2 < 3 by omega) dX4_wears_29 (fun H locs hP hS => ?_)
          refine lv_aload_n hx hb dX4_wears_30 rfl (lv_at hl 0 rfl) ?_
          refine mg hx hb hw4 hown hK hP 29 (by decide) (v := .ref (b 20)) rfl (hts (.fieldLink RX4 82 "BackupPowerModel" "given" "[I") (by decide +kernel)) dX4_wears_31 ?_
          refine lv_iload_n hx hb dX4_wears_34 rfl (lv_at hl 1 rfl) ?_
          refine mld hx hb hK hP 20 (by decide) (show k2 < 3 by omega) dX4_wears_35 ?_
          refine lv_if_ne (tgt := 43) hx hb dX4_wears_36 (by decide) (fun c36 => ?_) (fun c36 => ?_)
          · rewrite [if_neg c36] at h
            refine lv_aload_n hx hb dX4_wears_43 rfl (lv_at hl 0 rfl) ?_
            refine mg hx hb hw4 hown hK hP 29 (by decide) (v := .ref (b 20)) rfl (hts (.fieldLink RX4 82 "BackupPowerModel" "given" "[I") (by decide +kernel)) dX4_wears_44 ?_
            refine lv_iload_n hx hb dX4_wears_47 rfl (lv_at hl 1 rfl) ?_
            refine mld hx hb hK hP 20 (by decide) (show k2 < 3 by omega) dX4_wears_48 ?_
            refine lv_bipush (v := 49) hx hb dX4_wears_49 (by decide) ?_
            refine lv_iadd hx hb dX4_wears_51 ?_
            refine lv_bipush (v := 50) hx hb dX4_wears_52 (by decide) ?_
            refine lv_idiv hx hb dX4_wears_54 (by decide) ?_
            exact J55 (muA S2 19 k2 ((S2.2 19 k2) + 1)) ((((muA S2 19 k2 ((S2.2 19 k2) + 1)).2 20 k2) + 49) / 50) (by omega) h _ _ _ hP hS (lv_sub hl [0, 1] rfl)
          · rewrite [if_pos c36] at h
            refine lv_iconst (v := 1) hx hb dX4_wears_39 (by decide) ?_
            refine lv_goto (tgt := 55) hx hb dX4_wears_40 (by decide) ?_
            exact J55 (muA S2 19 k2 ((S2.2 19 k2) + 1)) 1 (by omega) h _ _ _ hP hS (lv_sub hl [0, 1] rfl)
  rewrite [f_X4_wears] at h
  refine lv_iconst (v := 0) hx hb dX4_wears_0 (by decide) ?_
  refine lv_istore_n (lv' := [(1, .int 0), (0, .ref (b 0))]) hx hb dX4_wears_1 rfl hl (by decide) rfl (fun ls hl => ?_)
  exact L2 (n.2.2 + 1) 0 S (by omega) (by omega) h _ _ _ hP hS (lv_sub hl [1, 0] rfl)

def f_X4_time (n : Nat × Nat × Nat) (S : MS) : Int32 × MS := ((muS S 0 0).1 1, (muS S 0 0))
set_option maxHeartbeats 4000000 in
set_option maxRecDepth 100000 in
theorem c_X4_time (l : Launch) (G : WG) (b : Nat → Nat) (ha : wInj 27 b) (n : Nat × Nat × Nat) (hn : n.1 ≤ 10 ∧ n.2.1 ≤ 3 ∧ n.2.2 ≤ 3) (S : MS) (sz : Nat) : gMi l yX4_time wsX4_time ({ frames := 0, cells := 0, slots := 0, locals := 0 }) G 27 b (MW G.2 b n) [.ref (b 0)] S sz (f_X4_time n S) := by
  unfold gMi
  refine Met.ofW (cc := cX4_time) (maxL := 1) (ret := (some .int)) (by decide) rfl ?_
  intro p e s m args below meth c s₁ B hml hv
  obtain ⟨rfl, rfl, hP, hK⟩ := hv
  have hx := B.exec
  have hb := B.bytes
  have hr := B.returns
  have hts := atoms_spec (ws := wsX4_time) B.pre
  have hown : s.vm.findClass RX4 = some m.cls := findClass_of_methodNamed B.named
  have hlocks := B.notSynchronized
  have hS : va_S (wA 27 b s.heap.size) s.heap s.heap [] := va_S.rf
  have hw4 : ∀ w ∈ wsX40, w.before ([.ref (b 0)] : List Value).toArray s = true := fun w hw => hts w ((by decide +kernel : ∀ w ∈ wsX40, w ∈ wsX4_time) w hw)
  have hl := lv_entry ([.ref (b 0)]) (n := 1) (Nat.le_of_ble_eq_true rfl)
  rw [lg_entry_eq]
  generalize (lg_sl ([.ref (b 0)] : List Value) ++ List.replicate (1 - (lg_sl ([.ref (b 0)] : List Value)).length) Slot.unset).toArray = ls at hl ⊢
  have hl : lv_has ls 1 [(0, .ref (b 0))] := hl
  generalize hF : f_X4_time n S = F
  have h : f_X4_time n S = F := hF
  clear hF
  show W p l e ({ frames := 0, cells := 0, slots := 0, locals := 0 } : Room) s m ([.ref (b 0)] : List Value).toArray below meth c s.heap [] 0 0 (gQi below G (MW G.2 b n) 27 b F ([.ref (b 0)] : List Value).toArray s) (F0 m 0 ls [])
  rewrite [f_X4_time] at h
  refine lv_aload_n hx hb dX4_time_0 rfl (lv_at hl 0 rfl) ?_
  refine lv_iconst (v := 0) hx hb dX4_time_1 (by decide) ?_
  refine mp hx hb hw4 hown hK ha hP hS 0 (by decide) rfl rfl okI (hts (.fieldLink RX4 103 "BackupPowerModel" "thrown" "I") (by decide +kernel)) dX4_time_2 (fun H locs hP hS => ?_)
  refine lv_aload_n hx hb dX4_time_5 rfl (lv_at hl 0 rfl) ?_
  refine mg hx hb hw4 hown hK hP 1 (by decide) (v := .int ((muS S 0 0).1 1)) rfl (hts (.fieldLink RX4 133 "BackupPowerModel" "now" "I") (by decide +kernel)) dX4_time_6 ?_
  exact gRi (wf := MW G.2 b n) (S := (muS S 0 0)) hx hb hr hlocks hP hS h dX4_time_9

def f_X4_outage (n : Nat × Nat × Nat) (S : MS) : Int32 × MS := ((muS S 0 0).1 3, (muS S 0 0))
set_option maxHeartbeats 4000000 in
set_option maxRecDepth 100000 in
theorem c_X4_outage (l : Launch) (G : WG) (b : Nat → Nat) (ha : wInj 27 b) (n : Nat × Nat × Nat) (hn : n.1 ≤ 10 ∧ n.2.1 ≤ 3 ∧ n.2.2 ≤ 3) (S : MS) (sz : Nat) : gMi l yX4_outage wsX4_outage ({ frames := 0, cells := 0, slots := 0, locals := 0 }) G 27 b (MW G.2 b n) [.ref (b 0)] S sz (f_X4_outage n S) := by
  unfold gMi
  refine Met.ofW (cc := cX4_outage) (maxL := 1) (ret := (some .int)) (by decide) rfl ?_
  intro p e s m args below meth c s₁ B hml hv
  obtain ⟨rfl, rfl, hP, hK⟩ := hv
  have hx := B.exec
  have hb := B.bytes
  have hr := B.returns
  have hts := atoms_spec (ws := wsX4_outage) B.pre
  have hown : s.vm.findClass RX4 = some m.cls := findClass_of_methodNamed B.named
  have hlocks := B.notSynchronized
  have hS : va_S (wA 27 b s.heap.size) s.heap s.heap [] := va_S.rf
  have hw4 : ∀ w ∈ wsX40, w.before ([.ref (b 0)] : List Value).toArray s = true := fun w hw => hts w ((by decide +kernel : ∀ w ∈ wsX40, w ∈ wsX4_outage) w hw)
  have hl := lv_entry ([.ref (b 0)]) (n := 1) (Nat.le_of_ble_eq_true rfl)
  rw [lg_entry_eq]
  generalize (lg_sl ([.ref (b 0)] : List Value) ++ List.replicate (1 - (lg_sl ([.ref (b 0)] : List Value)).length) Slot.unset).toArray = ls at hl ⊢
  have hl : lv_has ls 1 [(0, .ref (b 0))] := hl
  generalize hF : f_X4_outage n S = F
  have h : f_X4_outage n S = F := hF
  clear hF
  show W p l e ({ frames := 0, cells := 0, slots := 0, locals := 0 } : Room) s m ([.ref (b 0)] : List Value).toArray below meth c s.heap [] 0 0 (gQi below G (MW G.2 b n) 27 b F ([.ref (b 0)] : List Value).toArray s) (F0 m 0 ls [])
  rewrite [f_X4_outage] at h
  refine lv_aload_n hx hb dX4_outage_0 rfl (lv_at hl 0 rfl) ?_
  refine lv_iconst (v := 0) hx hb dX4_outage_1 (by decide) ?_
  refine mp hx hb hw4 hown hK ha hP hS 0 (by decide) rfl rfl okI (hts (.fieldLink RX4 103 "BackupPowerModel" "thrown" "I") (by decide +kernel)) dX4_outage_2 (fun H locs hP hS => ?_)
  refine lv_aload_n hx hb dX4_outage_5 rfl (lv_at hl 0 rfl) ?_
  refine mg hx hb hw4 hown hK hP 3 (by decide) (v := .int ((muS S 0 0).1 3)) rfl (hts (.fieldLink RX4 130 "BackupPowerModel" "away" "I") (by decide +kernel)) dX4_outage_6 ?_
  exact gRi (wf := MW G.2 b n) (S := (muS S 0 0)) hx hb hr hlocks hP hS h dX4_outage_9

def f_X4_fromMains (n : Nat × Nat × Nat) (S : MS) : Int32 × MS := ((muS S 0 0).1 36, (muS S 0 0))
set_option maxHeartbeats 4000000 in
set_option maxRecDepth 100000 in
theorem c_X4_fromMains (l : Launch) (G : WG) (b : Nat → Nat) (ha : wInj 27 b) (n : Nat × Nat × Nat) (hn : n.1 ≤ 10 ∧ n.2.1 ≤ 3 ∧ n.2.2 ≤ 3) (S : MS) (sz : Nat) : gMi l yX4_fromMains wsX4_fromMains ({ frames := 0, cells := 0, slots := 0, locals := 0 }) G 27 b (MW G.2 b n) [.ref (b 0)] S sz (f_X4_fromMains n S) := by
  unfold gMi
  refine Met.ofW (cc := cX4_fromMains) (maxL := 1) (ret := (some .int)) (by decide) rfl ?_
  intro p e s m args below meth c s₁ B hml hv
  obtain ⟨rfl, rfl, hP, hK⟩ := hv
  have hx := B.exec
  have hb := B.bytes
  have hr := B.returns
  have hts := atoms_spec (ws := wsX4_fromMains) B.pre
  have hown : s.vm.findClass RX4 = some m.cls := findClass_of_methodNamed B.named
  have hlocks := B.notSynchronized
  have hS : va_S (wA 27 b s.heap.size) s.heap s.heap [] := va_S.rf
  have hw4 : ∀ w ∈ wsX40, w.before ([.ref (b 0)] : List Value).toArray s = true := fun w hw => hts w ((by decide +kernel : ∀ w ∈ wsX40, w ∈ wsX4_fromMains) w hw)
  have hl := lv_entry ([.ref (b 0)]) (n := 1) (Nat.le_of_ble_eq_true rfl)
  rw [lg_entry_eq]
  generalize (lg_sl ([.ref (b 0)] : List Value) ++ List.replicate (1 - (lg_sl ([.ref (b 0)] : List Value)).length) Slot.unset).toArray = ls at hl ⊢
  have hl : lv_has ls 1 [(0, .ref (b 0))] := hl
  generalize hF : f_X4_fromMains n S = F
  have h : f_X4_fromMains n S = F := hF
  clear hF
  show W p l e ({ frames := 0, cells := 0, slots := 0, locals := 0 } : Room) s m ([.ref (b 0)] : List Value).toArray below meth c s.heap [] 0 0 (gQi below G (MW G.2 b n) 27 b F ([.ref (b 0)] : List Value).toArray s) (F0 m 0 ls [])
  rewrite [f_X4_fromMains] at h
  refine lv_aload_n hx hb dX4_fromMains_0 rfl (lv_at hl 0 rfl) ?_
  refine lv_iconst (v := 0) hx hb dX4_fromMains_1 (by decide) ?_
  refine mp hx hb hw4 hown hK ha hP hS 0 (by decide) rfl rfl okI (hts (.fieldLink RX4 103 "BackupPowerModel" "thrown" "I") (by decide +kernel)) dX4_fromMains_2 (fun H locs hP hS => ?_)
  refine lv_aload_n hx hb dX4_fromMains_5 rfl (lv_at hl 0 rfl) ?_
  refine mg hx hb hw4 hown hK hP 36 (by decide) (v := .int ((muS S 0 0).1 36)) rfl (hts (.fieldLink RX4 162 "BackupPowerModel" "ofMains" "I") (by decide +kernel)) dX4_fromMains_6 ?_
  exact gRi (wf := MW G.2 b n) (S := (muS S 0 0)) hx hb hr hlocks hP hS h dX4_fromMains_9

def f_X4_fromGenerators (n : Nat × Nat × Nat) (S : MS) : Int32 × MS := ((muS S 0 0).1 37, (muS S 0 0))
set_option maxHeartbeats 4000000 in
set_option maxRecDepth 100000 in
theorem c_X4_fromGenerators (l : Launch) (G : WG) (b : Nat → Nat) (ha : wInj 27 b) (n : Nat × Nat × Nat) (hn : n.1 ≤ 10 ∧ n.2.1 ≤ 3 ∧ n.2.2 ≤ 3) (S : MS) (sz : Nat) : gMi l yX4_fromGenerators wsX4_fromGenerators ({ frames := 0, cells := 0, slots := 0, locals := 0 }) G 27 b (MW G.2 b n) [.ref (b 0)] S sz (f_X4_fromGenerators n S) := by
  unfold gMi
  refine Met.ofW (cc := cX4_fromGenerators) (maxL := 1) (ret := (some .int)) (by decide) rfl ?_
  intro p e s m args below meth c s₁ B hml hv
  obtain ⟨rfl, rfl, hP, hK⟩ := hv
  have hx := B.exec
  have hb := B.bytes
  have hr := B.returns
  have hts := atoms_spec (ws := wsX4_fromGenerators) B.pre
  have hown : s.vm.findClass RX4 = some m.cls := findClass_of_methodNamed B.named
  have hlocks := B.notSynchronized
  have hS : va_S (wA 27 b s.heap.size) s.heap s.heap [] := va_S.rf
  have hw4 : ∀ w ∈ wsX40, w.before ([.ref (b 0)] : List Value).toArray s = true := fun w hw => hts w ((by decide +kernel : ∀ w ∈ wsX40, w ∈ wsX4_fromGenerators) w hw)
  have hl := lv_entry ([.ref (b 0)]) (n := 1) (Nat.le_of_ble_eq_true rfl)
  rw [lg_entry_eq]
  generalize (lg_sl ([.ref (b 0)] : List Value) ++ List.replicate (1 - (lg_sl ([.ref (b 0)] : List Value)).length) Slot.unset).toArray = ls at hl ⊢
  have hl : lv_has ls 1 [(0, .ref (b 0))] := hl
  generalize hF : f_X4_fromGenerators n S = F
  have h : f_X4_fromGenerators n S = F := hF
  clear hF
  show W p l e ({ frames := 0, cells := 0, slots := 0, locals := 0 } : Room) s m ([.ref (b 0)] : List Value).toArray below meth c s.heap [] 0 0 (gQi below G (MW G.2 b n) 27 b F ([.ref (b 0)] : List Value).toArray s) (F0 m 0 ls [])
  rewrite [f_X4_fromGenerators] at h
  refine lv_aload_n hx hb dX4_fromGenerators_0 rfl (lv_at hl 0 rfl) ?_
  refine lv_iconst (v := 0) hx hb dX4_fromGenerators_1 (by decide) ?_
  refine mp hx hb hw4 hown hK ha hP hS 0 (by decide) rfl rfl okI (hts (.fieldLink RX4 103 "BackupPowerModel" "thrown" "I") (by decide +kernel)) dX4_fromGenerators_2 (fun H locs hP hS => ?_)
  refine lv_aload_n hx hb dX4_fromGenerators_5 rfl (lv_at hl 0 rfl) ?_
  refine mg hx hb hw4 hown hK hP 37 (by decide) (v := .int ((muS S 0 0).1 37)) rfl (hts (.fieldLink RX4 169 "BackupPowerModel" "ofGenerators" "I") (by decide +kernel)) dX4_fromGenerators_6 ?_
  exact gRi (wf := MW G.2 b n) (S := (muS S 0 0)) hx hb hr hlocks hP hS h dX4_fromGenerators_9

def f_X4_fromBatteries (n : Nat × Nat × Nat) (S : MS) : Int32 × MS := ((muS S 0 0).1 38, (muS S 0 0))
set_option maxHeartbeats 4000000 in
set_option maxRecDepth 100000 in
theorem c_X4_fromBatteries (l : Launch) (G : WG) (b : Nat → Nat) (ha : wInj 27 b) (n : Nat × Nat × Nat) (hn : n.1 ≤ 10 ∧ n.2.1 ≤ 3 ∧ n.2.2 ≤ 3) (S : MS) (sz : Nat) : gMi l yX4_fromBatteries wsX4_fromBatteries ({ frames := 0, cells := 0, slots := 0, locals := 0 }) G 27 b (MW G.2 b n) [.ref (b 0)] S sz (f_X4_fromBatteries n S) := by
  unfold gMi
  refine Met.ofW (cc := cX4_fromBatteries) (maxL := 1) (ret := (some .int)) (by decide) rfl ?_
  intro p e s m args below meth c s₁ B hml hv
  obtain ⟨rfl, rfl, hP, hK⟩ := hv
  have hx := B.exec
  have hb := B.bytes
  have hr := B.returns
  have hts := atoms_spec (ws := wsX4_fromBatteries) B.pre
  have hown : s.vm.findClass RX4 = some m.cls := findClass_of_methodNamed B.named
  have hlocks := B.notSynchronized
  have hS : va_S (wA 27 b s.heap.size) s.heap s.heap [] := va_S.rf
  have hw4 : ∀ w ∈ wsX40, w.before ([.ref (b 0)] : List Value).toArray s = true := fun w hw => hts w ((by decide +kernel : ∀ w ∈ wsX40, w ∈ wsX4_fromBatteries) w hw)
  have hl := lv_entry ([.ref (b 0)]) (n := 1) (Nat.le_of_ble_eq_true rfl)
  rw [lg_entry_eq]
  generalize (lg_sl ([.ref (b 0)] : List Value) ++ List.replicate (1 - (lg_sl ([.ref (b 0)] : List Value)).length) Slot.unset).toArray = ls at hl ⊢
  have hl : lv_has ls 1 [(0, .ref (b 0))] := hl
  generalize hF : f_X4_fromBatteries n S = F
  have h : f_X4_fromBatteries n S = F := hF
  clear hF
  show W p l e ({ frames := 0, cells := 0, slots := 0, locals := 0 } : Room) s m ([.ref (b 0)] : List Value).toArray below meth c s.heap [] 0 0 (gQi below G (MW G.2 b n) 27 b F ([.ref (b 0)] : List Value).toArray s) (F0 m 0 ls [])
  rewrite [f_X4_fromBatteries] at h
  refine lv_aload_n hx hb dX4_fromBatteries_0 rfl (lv_at hl 0 rfl) ?_
  refine lv_iconst (v := 0) hx hb dX4_fromBatteries_1 (by decide) ?_
  refine mp hx hb hw4 hown hK ha hP hS 0 (by decide) rfl rfl okI (hts (.fieldLink RX4 103 "BackupPowerModel" "thrown" "I") (by decide +kernel)) dX4_fromBatteries_2 (fun H locs hP hS => ?_)
  refine lv_aload_n hx hb dX4_fromBatteries_5 rfl (lv_at hl 0 rfl) ?_
  refine mg hx hb hw4 hown hK hP 38 (by decide) (v := .int ((muS S 0 0).1 38)) rfl (hts (.fieldLink RX4 172 "BackupPowerModel" "ofBatteries" "I") (by decide +kernel)) dX4_fromBatteries_6 ?_
  exact gRi (wf := MW G.2 b n) (S := (muS S 0 0)) hx hb hr hlocks hP hS h dX4_fromBatteries_9

def f_X4_intoBatteries (n : Nat × Nat × Nat) (S : MS) : Int32 × MS := ((muS S 0 0).1 39, (muS S 0 0))
set_option maxHeartbeats 4000000 in
set_option maxRecDepth 100000 in
theorem c_X4_intoBatteries (l : Launch) (G : WG) (b : Nat → Nat) (ha : wInj 27 b) (n : Nat × Nat × Nat) (hn : n.1 ≤ 10 ∧ n.2.1 ≤ 3 ∧ n.2.2 ≤ 3) (S : MS) (sz : Nat) : gMi l yX4_intoBatteries wsX4_intoBatteries ({ frames := 0, cells := 0, slots := 0, locals := 0 }) G 27 b (MW G.2 b n) [.ref (b 0)] S sz (f_X4_intoBatteries n S) := by
  unfold gMi
  refine Met.ofW (cc := cX4_intoBatteries) (maxL := 1) (ret := (some .int)) (by decide) rfl ?_
  intro p e s m args below meth c s₁ B hml hv
  obtain ⟨rfl, rfl, hP, hK⟩ := hv
  have hx := B.exec
  have hb := B.bytes
  have hr := B.returns
  have hts := atoms_spec (ws := wsX4_intoBatteries) B.pre
  have hown : s.vm.findClass RX4 = some m.cls := findClass_of_methodNamed B.named
  have hlocks := B.notSynchronized
  have hS : va_S (wA 27 b s.heap.size) s.heap s.heap [] := va_S.rf
  have hw4 : ∀ w ∈ wsX40, w.before ([.ref (b 0)] : List Value).toArray s = true := fun w hw => hts w ((by decide +kernel : ∀ w ∈ wsX40, w ∈ wsX4_intoBatteries) w hw)
  have hl := lv_entry ([.ref (b 0)]) (n := 1) (Nat.le_of_ble_eq_true rfl)
  rw [lg_entry_eq]
  generalize (lg_sl ([.ref (b 0)] : List Value) ++ List.replicate (1 - (lg_sl ([.ref (b 0)] : List Value)).length) Slot.unset).toArray = ls at hl ⊢
  have hl : lv_has ls 1 [(0, .ref (b 0))] := hl
  generalize hF : f_X4_intoBatteries n S = F
  have h : f_X4_intoBatteries n S = F := hF
  clear hF
  show W p l e ({ frames := 0, cells := 0, slots := 0, locals := 0 } : Room) s m ([.ref (b 0)] : List Value).toArray below meth c s.heap [] 0 0 (gQi below G (MW G.2 b n) 27 b F ([.ref (b 0)] : List Value).toArray s) (F0 m 0 ls [])
  rewrite [f_X4_intoBatteries] at h
  refine lv_aload_n hx hb dX4_intoBatteries_0 rfl (lv_at hl 0 rfl) ?_
  refine lv_iconst (v := 0) hx hb dX4_intoBatteries_1 (by decide) ?_
  refine mp hx hb hw4 hown hK ha hP hS 0 (by decide) rfl rfl okI (hts (.fieldLink RX4 103 "BackupPowerModel" "thrown" "I") (by decide +kernel)) dX4_intoBatteries_2 (fun H locs hP hS => ?_)
  refine lv_aload_n hx hb dX4_intoBatteries_5 rfl (lv_at hl 0 rfl) ?_
  refine mg hx hb hw4 hown hK hP 39 (by decide) (v := .int ((muS S 0 0).1 39)) rfl (hts (.fieldLink RX4 175 "BackupPowerModel" "toBatteries" "I") (by decide +kernel)) dX4_intoBatteries_6 ?_
  exact gRi (wf := MW G.2 b n) (S := (muS S 0 0)) hx hb hr hlocks hP hS h dX4_intoBatteries_9

def f_X4_demand_c6 (n : Nat × Nat × Nat) (p6 : Int32 × MS) : Int32 × MS := (p6.1, p6.2)
def f_X4_demand (n : Nat × Nat × Nat) (S : MS) : Int32 × MS := (f_X4_demand_c6 n (f_X4_needed n (muS S 0 0)))
set_option maxHeartbeats 4000000 in
set_option maxRecDepth 100000 in
theorem c_X4_demand (l : Launch) (G : WG) (b : Nat → Nat) (ha : wInj 27 b) (n : Nat × Nat × Nat) (hn : n.1 ≤ 10 ∧ n.2.1 ≤ 3 ∧ n.2.2 ≤ 3) (S : MS) (sz : Nat) : gMi l yX4_demand wsX4_demand ({ frames := 1, cells := 0, slots := 0, locals := 22 }) G 27 b (MW G.2 b n) [.ref (b 0)] S sz (f_X4_demand n S) := by
  unfold gMi
  refine Met.ofW (cc := cX4_demand) (maxL := 1) (ret := (some .int)) (by decide) rfl ?_
  intro p e s m args below meth c s₁ B hml hv
  obtain ⟨rfl, rfl, hP, hK⟩ := hv
  have hx := B.exec
  have hb := B.bytes
  have hr := B.returns
  have hts := atoms_spec (ws := wsX4_demand) B.pre
  have hown : s.vm.findClass RX4 = some m.cls := findClass_of_methodNamed B.named
  have hlocks := B.notSynchronized
  have hS : va_S (wA 27 b s.heap.size) s.heap s.heap [] := va_S.rf
  have hw4 : ∀ w ∈ wsX40, w.before ([.ref (b 0)] : List Value).toArray s = true := fun w hw => hts w ((by decide +kernel : ∀ w ∈ wsX40, w ∈ wsX4_demand) w hw)
  have hl := lv_entry ([.ref (b 0)]) (n := 1) (Nat.le_of_ble_eq_true rfl)
  rw [lg_entry_eq]
  generalize (lg_sl ([.ref (b 0)] : List Value) ++ List.replicate (1 - (lg_sl ([.ref (b 0)] : List Value)).length) Slot.unset).toArray = ls at hl ⊢
  have hl : lv_has ls 1 [(0, .ref (b 0))] := hl
  generalize hF : f_X4_demand n S = F
  have h : f_X4_demand n S = F := hF
  clear hF
  show W p l e ({ frames := 1, cells := 0, slots := 0, locals := 22 } : Room) s m ([.ref (b 0)] : List Value).toArray below meth c s.heap [] 0 0 (gQi below G (MW G.2 b n) 27 b F ([.ref (b 0)] : List Value).toArray s) (F0 m 0 ls [])
  rewrite [f_X4_demand] at h
  refine lv_aload_n hx hb dX4_demand_0 rfl (lv_at hl 0 rfl) ?_
  refine lv_iconst (v := 0) hx hb dX4_demand_1 (by decide) ?_
  refine mp hx hb hw4 hown hK ha hP hS 0 (by decide) rfl rfl okI (hts (.fieldLink RX4 103 "BackupPowerModel" "thrown" "I") (by decide +kernel)) dX4_demand_2 (fun H locs hP hS => ?_)
  refine lv_aload_n hx hb dX4_demand_5 rfl (lv_at hl 0 rfl) ?_
  refine gcVi (wf := MW G.2 b n) (N := 27) (ad := b) (As := []) (rest := []) (S := muS S 0 0) ⟨hx, hb, hml, hown, hts⟩ hK hP hS (c_X4_needed l G b ha n hn (muS S 0 0) _) (cwV 0 hts gX4_demand_X4_needed rfl rfl rfl (by decide +kernel) ⟨Nat.le_of_ble_eq_true rfl, Nat.le_of_ble_eq_true rfl⟩) (mrO hK hP) rfl hl.1 rfl (Nat.le_of_ble_eq_true rfl) dX4_demand_6 ⟨Nat.le_of_ble_eq_true rfl, Nat.le_of_ble_eq_true rfl⟩ (fun p6 H locs ep6 hP hS => ?_)
  rewrite [← ep6] at h
  rewrite [f_X4_demand_c6] at h
  exact gRi (wf := MW G.2 b n) (S := p6.2) hx hb hr hlocks hP hS h dX4_demand_9

def f_X4_told_b27 (n : Nat × Nat × Nat) (x1 : Nat) (x2 : Int32) (x3 : Nat) (S27 : MS) (s0_27 : Int32) : Int32 × MS := (s0_27, S27)
def f_X4_told_c24 (n : Nat × Nat × Nat) (x1 : Nat) (x2 : Int32) (x3 : Nat) (p24 : Int32 × MS) : Int32 × MS := (f_X4_told_b27 n x1 x2 x3 p24.2 p24.1)
def f_X4_told_c10 (n : Nat × Nat × Nat) (x1 : Nat) (x2 : Int32) (x3 : Nat) (p10 : Int32 × MS) : Int32 × MS := (if p10.1 = 0 then (f_X4_told_c24 n x1 x2 x3 (f_X4_fails n 1 p10.2)) else (f_X4_told_b27 n x1 x2 x3 p10.2 (p10.2.2 x1 x2.toNatClampNeg)))
def f_X4_told (n : Nat × Nat × Nat) (x1 : Nat) (x2 : Int32) (x3 : Nat) (S : MS) : Int32 × MS := (f_X4_told_c10 n x1 x2 x3 (f_X4_in n x2 0 ((nI x3) - 1) (muS S 0 0)))
set_option maxHeartbeats 4000000 in
set_option maxRecDepth 100000 in
theorem c_X4_told (l : Launch) (G : WG) (b : Nat → Nat) (ha : wInj 27 b) (n : Nat × Nat × Nat) (hn : n.1 ≤ 10 ∧ n.2.1 ≤ 3 ∧ n.2.2 ≤ 3) (x1 : Nat) (hx1 : (x1 < 27 ∧ x1 ≠ 0 ∧ x1 ≠ 17)) (x2 : Int32) (x3 : Nat) (hx3 : x3 ≤ mLen x1) (S : MS) (sz : Nat) : gMi l yX4_told wsX4_told ({ frames := 1, cells := 0, slots := 0, locals := 22 }) G 27 b (MW G.2 b n) [.ref (b 0), .ref (b x1), .int x2, .int (nI x3)] S sz (f_X4_told n x1 x2 x3 S) := by
  unfold gMi
  refine Met.ofW (cc := cX4_told) (maxL := 4) (ret := (some .int)) (by decide) rfl ?_
  intro p e s m args below meth c s₁ B hml hv
  obtain ⟨rfl, rfl, hP, hK⟩ := hv
  have hx := B.exec
  have hb := B.bytes
  have hr := B.returns
  have hts := atoms_spec (ws := wsX4_told) B.pre
  have hown : s.vm.findClass RX4 = some m.cls := findClass_of_methodNamed B.named
  have hlocks := B.notSynchronized
  have hS : va_S (wA 27 b s.heap.size) s.heap s.heap [] := va_S.rf
  have hw4 : ∀ w ∈ wsX40, w.before ([.ref (b 0), .ref (b x1), .int x2, .int (nI x3)] : List Value).toArray s = true := fun w hw => hts w ((by decide +kernel : ∀ w ∈ wsX40, w ∈ wsX4_told) w hw)
  have hl := lv_entry ([.ref (b 0), .ref (b x1), .int x2, .int (nI x3)]) (n := 4) (Nat.le_of_ble_eq_true rfl)
  rw [lg_entry_eq]
  generalize (lg_sl ([.ref (b 0), .ref (b x1), .int x2, .int (nI x3)] : List Value) ++ List.replicate (4 - (lg_sl ([.ref (b 0), .ref (b x1), .int x2, .int (nI x3)] : List Value)).length) Slot.unset).toArray = ls at hl ⊢
  have hl : lv_has ls 4 [(0, .ref (b 0)), (1, .ref (b x1)), (2, .int x2), (3, .int (nI x3))] := hl
  generalize hF : f_X4_told n x1 x2 x3 S = F
  have h : f_X4_told n x1 x2 x3 S = F := hF
  clear hF
  show W p l e ({ frames := 1, cells := 0, slots := 0, locals := 22 } : Room) s m ([.ref (b 0), .ref (b x1), .int x2, .int (nI x3)] : List Value).toArray below meth c s.heap [] 0 0 (gQi below G (MW G.2 b n) 27 b F ([.ref (b 0), .ref (b x1), .int x2, .int (nI x3)] : List Value).toArray s) (F0 m 0 ls [])
  have J27 : ∀ (S27 : MS) (s0_27 : Int32), f_X4_told_b27 n x1 x2 x3 S27 s0_27 = F → ∀ (H : Heap) (locs : List Loc) (ls : Array Slot), wM G b n S27 H → va_S (wA 27 b s.heap.size) s.heap H locs → lv_has ls 4 [] → W p l e ({ frames := 1, cells := 0, slots := 0, locals := 22 } : Room) s m ([.ref (b 0), .ref (b x1), .int x2, .int (nI x3)] : List Value).toArray below meth c H locs 0 0 (gQi below G (MW G.2 b n) 27 b F ([.ref (b 0), .ref (b x1), .int x2, .int (nI x3)] : List Value).toArray s) (F0 m 27 ls [.int s0_27]) := by
    intro S27 s0_27 h H locs ls hP hS hl
    rewrite [f_X4_told_b27] at h
    exact gRi (wf := MW G.2 b n) (S := S27) hx hb hr hlocks hP hS h dX4_told_27
  rewrite [f_X4_told] at h
  refine lv_aload_n hx hb dX4_told_0 rfl (lv_at hl 0 rfl) ?_
  refine lv_iconst (v := 0) hx hb dX4_told_1 (by decide) ?_
  refine mp hx hb hw4 hown hK ha hP hS 0 (by decide) rfl rfl okI (hts (.fieldLink RX4 103 "BackupPowerModel" "thrown" "I") (by decide +kernel)) dX4_told_2 (fun H locs hP hS => ?_)
  refine lv_iload_n hx hb dX4_told_5 rfl (lv_at hl 2 rfl) ?_
  refine lv_iconst (v := 0) hx hb dX4_told_6 (by decide) ?_
  refine lv_iload_n hx hb dX4_told_7 rfl (lv_at hl 3 rfl) ?_
  refine lv_iconst (v := 1) hx hb dX4_told_8 (by decide) ?_
  refine lv_isub hx hb dX4_told_9 ?_
  refine gcSz (wf := MW G.2 b n) (N := 27) (ad := b) (As := [.int x2, .int 0, .int ((nI x3) - 1)]) (rest := []) (S := muS S 0 0) ⟨hx, hb, hml, hown, hts⟩ hK hP hS (c_X4_in l G b ha n hn x2 0 ((nI x3) - 1) (muS S 0 0) _) (va_cwS 3 hts gX4_told_X4_in rfl rfl rfl (by decide +kernel) ⟨Nat.le_of_ble_eq_true rfl, Nat.le_of_ble_eq_true rfl⟩) rfl hl.1 rfl (Nat.le_of_ble_eq_true rfl) dX4_told_10 ⟨Nat.le_of_ble_eq_true rfl, Nat.le_of_ble_eq_true rfl⟩ (fun p10 H locs ep10 hbp10 hP hS => ?_)
  rewrite [← ep10] at h
  rewrite [f_X4_told_c10] at h
  refine lv_if_eq (tgt := 22) hx hb dX4_told_13 (by decide) (fun c13 => ?_) (fun c13 => ?_)
  · rewrite [if_pos c13] at h
    refine lv_aload_n hx hb dX4_told_22 rfl (lv_at hl 0 rfl) ?_
    refine lv_iconst (v := 1) hx hb dX4_told_23 (by decide) ?_
    refine gcVi (wf := MW G.2 b n) (N := 27) (ad := b) (As := [.int 1]) (rest := []) (S := p10.2) ⟨hx, hb, hml, hown, hts⟩ hK hP hS (c_X4_fails l G b ha n hn 1 p10.2 _) (cwV 1 hts gX4_told_X4_fails rfl rfl rfl (by decide +kernel) ⟨Nat.le_of_ble_eq_true rfl, Nat.le_of_ble_eq_true rfl⟩) (mrO hK hP) rfl hl.1 rfl (Nat.le_of_ble_eq_true rfl) dX4_told_24 ⟨Nat.le_of_ble_eq_true rfl, Nat.le_of_ble_eq_true rfl⟩ (fun p24 H locs ep24 hP hS => ?_)
    rewrite [← ep24] at h
    rewrite [f_X4_told_c24] at h
    exact J27 p24.2 p24.1 h _ _ _ hP hS (lv_sub hl [] rfl)
  · rewrite [if_neg c13] at h
    refine lv_aload_n hx hb dX4_told_16 rfl (lv_at hl 1 rfl) ?_
    refine lv_iload_n hx hb dX4_told_17 rfl (lv_at hl 2 rfl) ?_
    refine mldI hx hb hK hP x1 hx1 (in_in hx3 ep10 c13) dX4_told_18 ?_
    refine lv_goto (tgt := 27) hx hb dX4_told_19 (by decide) ?_
    exact J27 p10.2 (p10.2.2 x1 x2.toNatClampNeg) h _ _ _ hP hS (lv_sub hl [] rfl)

def f_X4_batteryMinutes_c99 (n : Nat × Nat × Nat) (K48 : Nat → MS → Int32 → Int32 × MS) (K72 : Nat → MS → Int32 → Int32 → Int32 × MS) (k48 : Nat) (k72 : Nat) (v1_72 : Int32) (v3_72 : Int32) (p99 : Int32 × MS) : Int32 × MS := (K72 (k72 + 1) (muA p99.2 11 k72 ((p99.2.2 11 k72) - p99.1)) v1_72 (v3_72 - p99.1))
def f_X4_batteryMinutes_c95 (n : Nat × Nat × Nat) (K48 : Nat → MS → Int32 → Int32 × MS) (K72 : Nat → MS → Int32 → Int32 → Int32 × MS) (k48 : Nat) (k72 : Nat) (v1_72 : Int32) (v3_72 : Int32) (p95 : Int32 × MS) : Int32 × MS := (f_X4_batteryMinutes_c99 n K48 K72 k48 k72 v1_72 v3_72 (f_X4_lesser n p95.1 v3_72 p95.2))
def f_X4_batteryMinutes_h72 (n : Nat × Nat × Nat) (K48 : Nat → MS → Int32 → Int32 × MS) (k48 : Nat) : Nat → Nat → MS → Int32 → Int32 → Int32 × MS
  | 0, _, S72, _, _ => (0, S72)
  | q + 1, k72, S72, v1_72, v3_72 => (if n.2.1 ≤ k72 then (K48 (k48 + 1) S72 v1_72) else (f_X4_batteryMinutes_c95 n K48 (f_X4_batteryMinutes_h72 n K48 k48 q) k48 k72 v1_72 v3_72 (f_X4_lesser n (S72.2 8 k72) (S72.2 11 k72) S72)))
def f_X4_batteryMinutes_b133 (n : Nat × Nat × Nat) (S133 : MS) (v2_133 : Int32) : Int32 × MS := (v2_133, S133)
def f_X4_batteryMinutes_c60 (n : Nat × Nat × Nat) (K48 : Nat → MS → Int32 → Int32 × MS) (k48 : Nat) (v1_48 : Int32) (p60 : Int32 × MS) : Int32 × MS := (if p60.1 < v1_48 then (f_X4_batteryMinutes_b133 n p60.2 (nI k48)) else (f_X4_batteryMinutes_h72 n K48 k48 (n.2.1 + 1) 0 p60.2 v1_48 v1_48))
def f_X4_batteryMinutes_h48 (n : Nat × Nat × Nat) : Nat → Nat → MS → Int32 → Int32 × MS
  | 0, _, S48, _ => (0, S48)
  | q + 1, k48, S48, v1_48 => (if 1000 ≤ k48 then (f_X4_batteryMinutes_b133 n S48 (nI k48)) else (f_X4_batteryMinutes_c60 n (f_X4_batteryMinutes_h48 n q) k48 v1_48 (f_X4_fromBatteriesNow n 11 S48)))
def f_X4_batteryMinutes_h20 (n : Nat × Nat × Nat) : Nat → Nat → MS → Int32 → Int32 × MS
  | 0, _, S20, _ => (0, S20)
  | q + 1, k20, S20, v1_20 => (if n.2.1 ≤ k20 then (f_X4_batteryMinutes_h48 n (1000 + 1) 0 S20 v1_20) else ((f_X4_batteryMinutes_h20 n q) (k20 + 1) (muA S20 11 k20 (S20.2 7 k20)) v1_20))
def f_X4_batteryMinutes_c6 (n : Nat × Nat × Nat) (p6 : Int32 × MS) : Int32 × MS := (if p6.1 = 0 then (1000, p6.2) else (f_X4_batteryMinutes_h20 n (n.2.1 + 1) 0 p6.2 p6.1))
def f_X4_batteryMinutes (n : Nat × Nat × Nat) (S : MS) : Int32 × MS := (f_X4_batteryMinutes_c6 n (f_X4_needed n (muS S 0 0)))
set_option maxHeartbeats 4000000 in
set_option maxRecDepth 100000 in
theorem c_X4_batteryMinutes (l : Launch) (G : WG) (b : Nat → Nat) (ha : wInj 27 b) (n : Nat × Nat × Nat) (hn : n.1 ≤ 10 ∧ n.2.1 ≤ 3 ∧ n.2.2 ≤ 3) (S : MS) (sz : Nat) : gMi l yX4_batteryMinutes wsX4_batteryMinutes ({ frames := 2, cells := 0, slots := 0, locals := 44 }) G 27 b (MW G.2 b n) [.ref (b 0)] S sz (f_X4_batteryMinutes n S) := by
  unfold gMi
  refine Met.ofW (cc := cX4_batteryMinutes) (maxL := 6) (ret := (some .int)) (by decide) rfl ?_
  intro p e s m args below meth c s₁ B hml hv
  obtain ⟨rfl, rfl, hP, hK⟩ := hv
  have hx := B.exec
  have hb := B.bytes
  have hr := B.returns
  have hts := atoms_spec (ws := wsX4_batteryMinutes) B.pre
  have hown : s.vm.findClass RX4 = some m.cls := findClass_of_methodNamed B.named
  have hlocks := B.notSynchronized
  have hS : va_S (wA 27 b s.heap.size) s.heap s.heap [] := va_S.rf
  have hw4 : ∀ w ∈ wsX40, w.before ([.ref (b 0)] : List Value).toArray s = true := fun w hw => hts w ((by decide +kernel : ∀ w ∈ wsX40, w ∈ wsX4_batteryMinutes) w hw)
  have hl := lv_entry ([.ref (b 0)]) (n := 6) (Nat.le_of_ble_eq_true rfl)
  rw [lg_entry_eq]
  generalize (lg_sl ([.ref (b 0)] : List Value) ++ List.replicate (6 - (lg_sl ([.ref (b 0)] : List Value)).length) Slot.unset).toArray = ls at hl ⊢
  have hl : lv_has ls 6 [(0, .ref (b 0))] := hl
  generalize hF : f_X4_batteryMinutes n S = F
  have h : f_X4_batteryMinutes n S = F := hF
  clear hF
  show W p l e ({ frames := 2, cells := 0, slots := 0, locals := 44 } : Room) s m ([.ref (b 0)] : List Value).toArray below meth c s.heap [] 0 0 (gQi below G (MW G.2 b n) 27 b F ([.ref (b 0)] : List Value).toArray s) (F0 m 0 ls [])
  have L20 : ∀ (q20 : Nat) (k20 : Nat) (S20 : MS) (v1_20 : Int32), k20 ≤ n.2.1 → n.2.1 < k20 + q20 → f_X4_batteryMinutes_h20 n q20 k20 S20 v1_20 = F → ∀ (H : Heap) (locs : List Loc) (ls : Array Slot), wM G b n S20 H → va_S (wA 27 b s.heap.size) s.heap H locs → lv_has ls 6 [(0, .ref (b 0)), (1, .int v1_20), (2, .int (nI k20))] → W p l e ({ frames := 2, cells := 0, slots := 0, locals := 44 } : Room) s m ([.ref (b 0)] : List Value).toArray below meth c H locs 0 0 (gQi below G (MW G.2 b n) 27 b F ([.ref (b 0)] : List Value).toArray s) (F0 m 20 ls []) := by
    intro q20
    induction q20 with
    | zero => intro k20 S20 v1_20 hk20 hq20 h H locs ls hP hS hl; omega
    | succ q20 ih20 =>
      intro k20 S20 v1_20 hk20 hq20 h H locs ls hP hS hl
      have L48 : ∀ (q48 : Nat) (k48 : Nat) (S48 : MS) (v1_48 : Int32), k48 ≤ 1000 → 1000 < k48 + q48 → f_X4_batteryMinutes_h48 n q48 k48 S48 v1_48 = F → ∀ (H : Heap) (locs : List Loc) (ls : Array Slot), wM G b n S48 H → va_S (wA 27 b s.heap.size) s.heap H locs → lv_has ls 6 [(0, .ref (b 0)), (1, .int v1_48), (2, .int (nI k48))] → W p l e ({ frames := 2, cells := 0, slots := 0, locals := 44 } : Room) s m ([.ref (b 0)] : List Value).toArray below meth c H locs 0 0 (gQi below G (MW G.2 b n) 27 b F ([.ref (b 0)] : List Value).toArray s) (F0 m 48 ls []) := by
        intro q48
        induction q48 with
        | zero => intro k48 S48 v1_48 hk48 hq48 h H locs ls hP hS hl; omega
        | succ q48 ih48 =>
          intro k48 S48 v1_48 hk48 hq48 h H locs ls hP hS hl
          have L72 : ∀ (q72 : Nat) (k72 : Nat) (S72 : MS) (v1_72 : Int32) (v3_72 : Int32), (k48 < 1000) → k72 ≤ n.2.1 → n.2.1 < k72 + q72 → f_X4_batteryMinutes_h72 n (f_X4_batteryMinutes_h48 n q48) k48 q72 k72 S72 v1_72 v3_72 = F → ∀ (H : Heap) (locs : List Loc) (ls : Array Slot), wM G b n S72 H → va_S (wA 27 b s.heap.size) s.heap H locs → lv_has ls 6 [(0, .ref (b 0)), (1, .int v1_72), (2, .int (nI k48)), (3, .int v3_72), (4, .int (nI k72))] → W p l e ({ frames := 2, cells := 0, slots := 0, locals := 44 } : Room) s m ([.ref (b 0)] : List Value).toArray below meth c H locs 0 0 (gQi below G (MW G.2 b n) 27 b F ([.ref (b 0)] : List Value).toArray s) (F0 m 72 ls []) := by
            intro q72
            induction q72 with
            | zero => intro k72 S72 v1_72 v3_72 hkb48 hk72 hq72 h H locs ls hP hS hl; omega
            | succ q72 ih72 =>
              intro k72 S72 v1_72 v3_72 hkb48 hk72 hq72 h H locs ls hP hS hl
              rewrite [f_X4_batteryMinutes_h72] at h
              refine lv_iload hx hb dX4_batteryMinutes_72 (lv_at hl 4 rfl) ?_
              refine lv_aload_n hx hb dX4_batteryMinutes_74 rfl (lv_at hl 0 rfl) ?_
              refine mg hx hb hw4 hown hK hP 13 (by decide) (v := .int (nI n.2.1)) rfl (hts (.fieldLink RX4 116 "BackupPowerModel" "batteryMany" "I") (by decide +kernel)) dX4_batteryMinutes_75 ?_
              refine lv_icmp_ge (tgt := 127) hx hb dX4_batteryMinutes_78 (by decide) (fun c78 => ?_) (fun c78 => ?_)
              · have c78 : n.2.1 ≤ k72 := (nI_leI (a := n.2.1) (b := k72) (by omega) (by omega)).mp c78
                rewrite [if_pos c78] at h
                refine lv_iinc (k := 2) (v := nI (k48 + 1)) (lv' := [(2, .int (nI (k48 + 1))), (0, .ref (b 0)), (1, .int v1_72), (3, .int v3_72), (4, .int (nI k72))]) hx hb dX4_batteryMinutes_127 hl rfl (nI_inc _) (by decide) rfl (fun ls hl => ?_)
                refine lv_goto (tgt := 48) hx hb dX4_batteryMinutes_130 (by decide) ?_
                exact ih48 (k48 + 1) S72 v1_72 (by omega) (by omega) h _ _ _ hP hS (lv_sub hl [1, 2, 0] rfl)
              · have c78 : ¬ n.2.1 ≤ k72 := fun z => c78 ((nI_leI (a := n.2.1) (b := k72) (by omega) (by omega)).mpr z)
                rewrite [if_neg c78] at h
                refine lv_aload_n hx hb dX4_batteryMinutes_81 rfl (lv_at hl 0 rfl) ?_
                refine mg hx hb hw4 hown hK hP 16 (by decide) (v := .ref (b 8)) rfl (hts (.fieldLink RX4 45 "BackupPowerModel" "rates" "[I") (by decide +kernel)) dX4_batteryMinutes_82 ?_
                refine lv_iload hx hb dX4_batteryMinutes_85 (lv_at hl 4 rfl) ?_
                refine mld hx hb hK hP 8 (by decide) (show k72 < 3 by omega) dX4_batteryMinutes_87 ?_
                refine lv_aload_n hx hb dX4_batteryMinutes_88 rfl (lv_at hl 0 rfl) ?_
                refine mg hx hb hw4 hown hK hP 19 (by decide) (v := .ref (b 11)) rfl (hts (.fieldLink RX4 54 "BackupPowerModel" "trial" "[I") (by decide +kernel)) dX4_batteryMinutes_89 ?_
                refine lv_iload hx hb dX4_batteryMinutes_92 (lv_at hl 4 rfl) ?_
                refine mld hx hb hK hP 11 (by decide) (show k72 < 3 by omega) dX4_batteryMinutes_94 ?_
                refine gcSi (wf := MW G.2 b n) (N := 27) (ad := b) (As := [.int (S72.2 8 k72), .int (S72.2 11 k72)]) (rest := []) (S := S72) ⟨hx, hb, hml, hown, hts⟩ hK hP hS (c_X4_lesser l G b ha n hn (S72.2 8 k72) (S72.2 11 k72) S72 _) (va_cwS 2 hts gX4_batteryMinutes_X4_lesser rfl rfl rfl (by decide +kernel) ⟨Nat.le_of_ble_eq_true rfl, Nat.le_of_ble_eq_true rfl⟩) rfl hl.1 rfl (Nat.le_of_ble_eq_true rfl) dX4_batteryMinutes_95 ⟨Nat.le_of_ble_eq_true rfl, Nat.le_of_ble_eq_true rfl⟩ (fun p95 H locs ep95 hP hS => ?_)
                rewrite [← ep95] at h
                rewrite [f_X4_batteryMinutes_c95] at h
                refine lv_iload_n hx hb dX4_batteryMinutes_98 rfl (lv_at hl 3 rfl) ?_
                refine gcSi (wf := MW G.2 b n) (N := 27) (ad := b) (As := [.int p95.1, .int v3_72]) (rest := []) (S := p95.2) ⟨hx, hb, hml, hown, hts⟩ hK hP hS (c_X4_lesser l G b ha n hn p95.1 v3_72 p95.2 _) (va_cwS 2 hts gX4_batteryMinutes_X4_lesser rfl rfl rfl (by decide +kernel) ⟨Nat.le_of_ble_eq_true rfl, Nat.le_of_ble_eq_true rfl⟩) rfl hl.1 rfl (Nat.le_of_ble_eq_true rfl) dX4_batteryMinutes_99 ⟨Nat.le_of_ble_eq_true rfl, Nat.le_of_ble_eq_true rfl⟩ (fun p99 H locs ep99 hP hS => ?_)
                rewrite [← ep99] at h
                rewrite [f_X4_batteryMinutes_c99] at h
                refine lv_istore (lv' := [(5, .int p99.1), (0, .ref (b 0)), (1, .int v1_72), (2, .int (nI k48)), (3, .int v3_72), (4, .int (nI k72))]) hx hb dX4_batteryMinutes_102 hl (by decide) rfl (fun ls hl => ?_)
                refine lv_aload_n hx hb dX4_batteryMinutes_104 rfl (lv_at hl 1 rfl) ?_
                refine mg hx hb hw4 hown hK hP 19 (by decide) (v := .ref (b 11)) rfl (hts (.fieldLink RX4 54 "BackupPowerModel" "trial" "[I") (by decide +kernel)) dX4_batteryMinutes_105 ?_
                refine lv_iload hx hb dX4_batteryMinutes_108 (lv_at hl 5 rfl) ?_
                refine lv_dup2_11 hx hb dX4_batteryMinutes_110 rfl rfl ?_
                refine mld hx hb hK hP 11 (by decide) (show k72 < 3 by omega) dX4_batteryMinutes_111 ?_
                refine lv_iload hx hb dX4_batteryMinutes_112 (lv_at hl 0 rfl) ?_
                refine lv_isub hx hb dX4_batteryMinutes_114 ?_
                refine mst hx hb hK ha hP hS 11 (by decide) (show k72 < 3 by omega) dX4_batteryMinutes_115 (fun H locs hP hS => ?_)
                refine lv_iload_n hx hb dX4_batteryMinutes_116 rfl (lv_at hl 4 rfl) ?_
                refine lv_iload hx hb dX4_batteryMinutes_117 (lv_at hl 0 rfl) ?_
                refine lv_isub hx hb dX4_batteryMinutes_119 ?_
                refine lv_istore_n (lv' := [(3, .int (v3_72 - p99.1)), (5, .int p99.1), (0, .ref (b 0)), (1, .int v1_72), (2, .int (nI k48)), (4, .int (nI k72))]) hx hb dX4_batteryMinutes_120 rfl hl (by decide) rfl (fun ls hl => ?_)
                refine lv_iinc (k := 5) (v := nI (k72 + 1)) (lv' := [(4, .int (nI (k72 + 1))), (3, .int (v3_72 - p99.1)), (5, .int p99.1), (0, .ref (b 0)), (1, .int v1_72), (2, .int (nI k48))]) hx hb dX4_batteryMinutes_121 hl rfl (nI_inc _) (by decide) rfl (fun ls hl => ?_)
                refine lv_goto (tgt := 72) hx hb dX4_batteryMinutes_124 (by decide) ?_
                exact ih72 (k72 + 1) (muA p99.2 11 k72 ((p99.2.2 11 k72) - p99.1)) v1_72 (v3_72 - p99.1) (by omega) (by omega) (by omega) h _ _ _ hP hS (lv_sub hl [3, 4, 5, 1, 0] rfl)
          have J133 : ∀ (S133 : MS) (v2_133 : Int32), f_X4_batteryMinutes_b133 n S133 v2_133 = F → ∀ (H : Heap) (locs : List Loc) (ls : Array Slot), wM G b n S133 H → va_S (wA 27 b s.heap.size) s.heap H locs → lv_has ls 6 [(2, .int v2_133)] → W p l e ({ frames := 2, cells := 0, slots := 0, locals := 44 } : Room) s m ([.ref (b 0)] : List Value).toArray below meth c H locs 0 0 (gQi below G (MW G.2 b n) 27 b F ([.ref (b 0)] : List Value).toArray s) (F0 m 133 ls []) := by
            intro S133 v2_133 h H locs ls hP hS hl
            rewrite [f_X4_batteryMinutes_b133] at h
            refine lv_iload_n hx hb dX4_batteryMinutes_133 rfl (lv_at hl 0 rfl) ?_
            exact gRi (wf := MW G.2 b n) (S := S133) hx hb hr hlocks hP hS h dX4_batteryMinutes_134
          rewrite [f_X4_batteryMinutes_h48] at h
          refine lv_iload_n hx hb dX4_batteryMinutes_48 rfl (lv_at hl 2 rfl) ?_
          refine lv_sipush (v := 1000) hx hb dX4_batteryMinutes_49 (by decide) ?_
          refine lv_icmp_ge (tgt := 133) hx hb dX4_batteryMinutes_52 (by decide) (fun c52 => ?_) (fun c52 => ?_)
          · have c52 : 1000 ≤ k48 := (nI_leI (a := 1000) (b := k48) (by omega) (by omega)).mp c52
            rewrite [if_pos c52] at h
            exact J133 S48 (nI k48) h _ _ _ hP hS (lv_sub hl [2] rfl)
          · have c52 : ¬ 1000 ≤ k48 := fun z => c52 ((nI_leI (a := 1000) (b := k48) (by omega) (by omega)).mpr z)
            rewrite [if_neg c52] at h
            refine lv_aload_n hx hb dX4_batteryMinutes_55 rfl (lv_at hl 0 rfl) ?_
            refine lv_aload_n hx hb dX4_batteryMinutes_56 rfl (lv_at hl 0 rfl) ?_
            refine mg hx hb hw4 hown hK hP 19 (by decide) (v := .ref (b 11)) rfl (hts (.fieldLink RX4 54 "BackupPowerModel" "trial" "[I") (by decide +kernel)) dX4_batteryMinutes_57 ?_
            refine gcVi (wf := MW G.2 b n) (N := 27) (ad := b) (As := [.ref (b 11)]) (rest := []) (S := S48) ⟨hx, hb, hml, hown, hts⟩ hK hP hS (c_X4_fromBatteriesNow l G b ha n hn 11 (by decide) (by decide) S48 _) (cwV 1 hts gX4_batteryMinutes_X4_fromBatteriesNow rfl rfl rfl (by decide +kernel) ⟨Nat.le_of_ble_eq_true rfl, Nat.le_of_ble_eq_true rfl⟩) (mrO hK hP) rfl hl.1 rfl (Nat.le_of_ble_eq_true rfl) dX4_batteryMinutes_60 ⟨Nat.le_of_ble_eq_true rfl, Nat.le_of_ble_eq_true rfl⟩ (fun p60 H locs ep60 hP hS => ?_)
            rewrite [← ep60] at h
            rewrite [f_X4_batteryMinutes_c60] at h
            refine lv_iload_n hx hb dX4_batteryMinutes_63 rfl (lv_at hl 1 rfl) ?_
            refine lv_icmp_lt (tgt := 133) hx hb dX4_batteryMinutes_64 (by decide) (fun c64 => ?_) (fun c64 => ?_)
            · rewrite [if_pos c64] at h
              exact J133 p60.2 (nI k48) h _ _ _ hP hS (lv_sub hl [2] rfl)
            · rewrite [if_neg c64] at h
              refine lv_iload_n hx hb dX4_batteryMinutes_67 rfl (lv_at hl 1 rfl) ?_
              refine lv_istore_n (lv' := [(3, .int v1_48), (0, .ref (b 0)), (1, .int v1_48), (2, .int (nI k48))]) hx hb dX4_batteryMinutes_68 rfl hl (by decide) rfl (fun ls hl => ?_)
              refine lv_iconst (v := 0) hx hb dX4_batteryMinutes_69 (by decide) ?_
              refine lv_istore (lv' := [(4, .int 0), (3, .int v1_48), (0, .ref (b 0)), (1, .int v1_48), (2, .int (nI k48))]) hx hb dX4_batteryMinutes_70 hl (by decide) rfl (fun ls hl => ?_)
              exact L72 (n.2.1 + 1) 0 p60.2 v1_48 v1_48 (by omega) (by omega) (by omega) h _ _ _ hP hS (lv_sub hl [2, 3, 4, 1, 0] rfl)
      rewrite [f_X4_batteryMinutes_h20] at h
      refine lv_iload_n hx hb dX4_batteryMinutes_20 rfl (lv_at hl 2 rfl) ?_
      refine lv_aload_n hx hb dX4_batteryMinutes_21 rfl (lv_at hl 0 rfl) ?_
      refine mg hx hb hw4 hown hK hP 13 (by decide) (v := .int (nI n.2.1)) rfl (hts (.fieldLink RX4 116 "BackupPowerModel" "batteryMany" "I") (by decide +kernel)) dX4_batteryMinutes_22 ?_
      refine lv_icmp_ge (tgt := 46) hx hb dX4_batteryMinutes_25 (by decide) (fun c25 => ?_) (fun c25 => ?_)
      · have c25 : n.2.1 ≤ k20 := (nI_leI (a := n.2.1) (b := k20) (by omega) (by omega)).mp c25
        rewrite [if_pos c25] at h
        refine lv_iconst (v := 0) hx hb dX4_batteryMinutes_46 (by decide) ?_
        refine lv_istore_n (lv' := [(2, .int 0), (0, .ref (b 0)), (1, .int v1_20)]) hx hb dX4_batteryMinutes_47 rfl hl (by decide) rfl (fun ls hl => ?_)
        exact L48 (1000 + 1) 0 S20 v1_20 (by omega) (by omega) h _ _ _ hP hS (lv_sub hl [1, 2, 0] rfl)
      · have c25 : ¬ n.2.1 ≤ k20 := fun z => c25 ((nI_leI (a := n.2.1) (b := k20) (by omega) (by omega)).mpr z)
        rewrite [if_neg c25] at h
        refine lv_aload_n hx hb dX4_batteryMinutes_28 rfl (lv_at hl 0 rfl) ?_
        refine mg hx hb hw4 hown hK hP 19 (by decide) (v := .ref (b 11)) rfl (hts (.fieldLink RX4 54 "BackupPowerModel" "trial" "[I") (by decide +kernel)) dX4_batteryMinutes_29 ?_
        refine lv_iload_n hx hb dX4_batteryMinutes_32 rfl (lv_at hl 2 rfl) ?_
        refine lv_aload_n hx hb dX4_batteryMinutes_33 rfl (lv_at hl 0 rfl) ?_
        refine mg hx hb hw4 hown hK hP 15 (by decide) (v := .ref (b 7)) rfl (hts (.fieldLink RX4 42 "BackupPowerModel" "charges" "[I") (by decide +kernel)) dX4_batteryMinutes_34 ?_
        refine lv_iload_n hx hb dX4_batteryMinutes_37 rfl (lv_at hl 2 rfl) ?_
        refine mld hx hb hK hP 7 (by decide) (show k20 < 3 by omega) dX4_batteryMinutes_38 ?_
        refine mst hx hb hK ha hP hS 11 (by decide) (show k20 < 3 by omega) dX4_batteryMinutes_39 (fun H locs hP hS => ?_)
        refine lv_iinc (k := 2) (v := nI (k20 + 1)) (lv' := [(2, .int (nI (k20 + 1))), (0, .ref (b 0)), (1, .int v1_20)]) hx hb dX4_batteryMinutes_40 hl rfl (nI_inc _) (by decide) rfl (fun ls hl => ?_)
        refine lv_goto (tgt := 20) hx hb dX4_batteryMinutes_43 (by decide) ?_
        exact ih20 (k20 + 1) (muA S20 11 k20 (S20.2 7 k20)) v1_20 (by omega) (by omega) h _ _ _ hP hS (lv_sub hl [1, 2, 0] rfl)
  rewrite [f_X4_batteryMinutes] at h
  refine lv_aload_n hx hb dX4_batteryMinutes_0 rfl (lv_at hl 0 rfl) ?_
  refine lv_iconst (v := 0) hx hb dX4_batteryMinutes_1 (by decide) ?_
  refine mp hx hb hw4 hown hK ha hP hS 0 (by decide) rfl rfl okI (hts (.fieldLink RX4 103 "BackupPowerModel" "thrown" "I") (by decide +kernel)) dX4_batteryMinutes_2 (fun H locs hP hS => ?_)
  refine lv_aload_n hx hb dX4_batteryMinutes_5 rfl (lv_at hl 0 rfl) ?_
  refine gcVi (wf := MW G.2 b n) (N := 27) (ad := b) (As := []) (rest := []) (S := muS S 0 0) ⟨hx, hb, hml, hown, hts⟩ hK hP hS (c_X4_needed l G b ha n hn (muS S 0 0) _) (cwV 0 hts gX4_batteryMinutes_X4_needed rfl rfl rfl (by decide +kernel) ⟨Nat.le_of_ble_eq_true rfl, Nat.le_of_ble_eq_true rfl⟩) (mrO hK hP) rfl hl.1 rfl (Nat.le_of_ble_eq_true rfl) dX4_batteryMinutes_6 ⟨Nat.le_of_ble_eq_true rfl, Nat.le_of_ble_eq_true rfl⟩ (fun p6 H locs ep6 hP hS => ?_)
  rewrite [← ep6] at h
  rewrite [f_X4_batteryMinutes_c6] at h
  refine lv_istore_n (lv' := [(1, .int p6.1), (0, .ref (b 0))]) hx hb dX4_batteryMinutes_9 rfl hl (by decide) rfl (fun ls hl => ?_)
  refine lv_iload_n hx hb dX4_batteryMinutes_10 rfl (lv_at hl 0 rfl) ?_
  refine lv_if_ne (tgt := 18) hx hb dX4_batteryMinutes_11 (by decide) (fun c11 => ?_) (fun c11 => ?_)
  · rewrite [if_neg c11] at h
    refine lv_iconst (v := 0) hx hb dX4_batteryMinutes_18 (by decide) ?_
    refine lv_istore_n (lv' := [(2, .int 0), (1, .int p6.1), (0, .ref (b 0))]) hx hb dX4_batteryMinutes_19 rfl hl (by decide) rfl (fun ls hl => ?_)
    exact L20 (n.2.1 + 1) 0 p6.2 p6.1 (by omega) (by omega) h _ _ _ hP hS (lv_sub hl [2, 1, 0] rfl)
  · rewrite [if_pos c11] at h
    refine lv_sipush (v := 1000) hx hb dX4_batteryMinutes_14 (by decide) ?_
    exact gRi (wf := MW G.2 b n) (S := p6.2) hx hb hr hlocks hP hS h dX4_batteryMinutes_17

def f_X4_stateOf_c10 (n : Nat × Nat × Nat) (x1 : Int32) (p10 : Int32 × MS) : Int32 × MS := (p10.1, p10.2)
def f_X4_stateOf (n : Nat × Nat × Nat) (x1 : Int32) (S : MS) : Int32 × MS := (f_X4_stateOf_c10 n x1 (f_X4_told n 3 x1 n.1 S))
set_option maxHeartbeats 4000000 in
set_option maxRecDepth 100000 in
theorem c_X4_stateOf (l : Launch) (G : WG) (b : Nat → Nat) (ha : wInj 27 b) (n : Nat × Nat × Nat) (hn : n.1 ≤ 10 ∧ n.2.1 ≤ 3 ∧ n.2.2 ≤ 3) (x1 : Int32) (S : MS) (sz : Nat) : gMi l yX4_stateOf wsX4_stateOf ({ frames := 2, cells := 0, slots := 0, locals := 45 }) G 27 b (MW G.2 b n) [.ref (b 0), .int x1] S sz (f_X4_stateOf n x1 S) := by
  unfold gMi
  refine Met.ofW (cc := cX4_stateOf) (maxL := 2) (ret := (some .int)) (by decide) rfl ?_
  intro p e s m args below meth c s₁ B hml hv
  obtain ⟨rfl, rfl, hP, hK⟩ := hv
  have hx := B.exec
  have hb := B.bytes
  have hr := B.returns
  have hts := atoms_spec (ws := wsX4_stateOf) B.pre
  have hown : s.vm.findClass RX4 = some m.cls := findClass_of_methodNamed B.named
  have hlocks := B.notSynchronized
  have hS : va_S (wA 27 b s.heap.size) s.heap s.heap [] := va_S.rf
  have hw4 : ∀ w ∈ wsX40, w.before ([.ref (b 0), .int x1] : List Value).toArray s = true := fun w hw => hts w ((by decide +kernel : ∀ w ∈ wsX40, w ∈ wsX4_stateOf) w hw)
  have hl := lv_entry ([.ref (b 0), .int x1]) (n := 2) (Nat.le_of_ble_eq_true rfl)
  rw [lg_entry_eq]
  generalize (lg_sl ([.ref (b 0), .int x1] : List Value) ++ List.replicate (2 - (lg_sl ([.ref (b 0), .int x1] : List Value)).length) Slot.unset).toArray = ls at hl ⊢
  have hl : lv_has ls 2 [(0, .ref (b 0)), (1, .int x1)] := hl
  generalize hF : f_X4_stateOf n x1 S = F
  have h : f_X4_stateOf n x1 S = F := hF
  clear hF
  show W p l e ({ frames := 2, cells := 0, slots := 0, locals := 45 } : Room) s m ([.ref (b 0), .int x1] : List Value).toArray below meth c s.heap [] 0 0 (gQi below G (MW G.2 b n) 27 b F ([.ref (b 0), .int x1] : List Value).toArray s) (F0 m 0 ls [])
  rewrite [f_X4_stateOf] at h
  refine lv_aload_n hx hb dX4_stateOf_0 rfl (lv_at hl 0 rfl) ?_
  refine lv_aload_n hx hb dX4_stateOf_1 rfl (lv_at hl 0 rfl) ?_
  refine mg hx hb hw4 hown hK hP 10 (by decide) (v := .ref (b 3)) rfl (hts (.fieldLink RX4 30 "BackupPowerModel" "states" "[I") (by decide +kernel)) dX4_stateOf_2 ?_
  refine lv_iload_n hx hb dX4_stateOf_5 rfl (lv_at hl 1 rfl) ?_
  refine lv_aload_n hx hb dX4_stateOf_6 rfl (lv_at hl 0 rfl) ?_
  refine mg hx hb hw4 hown hK hP 7 (by decide) (v := .int (nI n.1)) rfl (hts (.fieldLink RX4 106 "BackupPowerModel" "loadMany" "I") (by decide +kernel)) dX4_stateOf_7 ?_
  refine gcVi (wf := MW G.2 b n) (N := 27) (ad := b) (As := [.ref (b 3), .int x1, .int (nI n.1)]) (rest := []) (S := S) ⟨hx, hb, hml, hown, hts⟩ hK hP hS (c_X4_told l G b ha n hn 3 (by decide) x1 n.1 (show n.1 ≤ 10 by omega) S _) (cwV 3 hts gX4_stateOf_X4_told rfl rfl rfl (by decide +kernel) ⟨Nat.le_of_ble_eq_true rfl, Nat.le_of_ble_eq_true rfl⟩) (mrO hK hP) rfl hl.1 rfl (Nat.le_of_ble_eq_true rfl) dX4_stateOf_10 ⟨Nat.le_of_ble_eq_true rfl, Nat.le_of_ble_eq_true rfl⟩ (fun p10 H locs ep10 hP hS => ?_)
  rewrite [← ep10] at h
  rewrite [f_X4_stateOf_c10] at h
  exact gRi (wf := MW G.2 b n) (S := p10.2) hx hb hr hlocks hP hS h dX4_stateOf_13

def f_X4_chargeOf_c10 (n : Nat × Nat × Nat) (x1 : Int32) (p10 : Int32 × MS) : Int32 × MS := (p10.1, p10.2)
def f_X4_chargeOf (n : Nat × Nat × Nat) (x1 : Int32) (S : MS) : Int32 × MS := (f_X4_chargeOf_c10 n x1 (f_X4_told n 7 x1 n.2.1 S))
set_option maxHeartbeats 4000000 in
set_option maxRecDepth 100000 in
theorem c_X4_chargeOf (l : Launch) (G : WG) (b : Nat → Nat) (ha : wInj 27 b) (n : Nat × Nat × Nat) (hn : n.1 ≤ 10 ∧ n.2.1 ≤ 3 ∧ n.2.2 ≤ 3) (x1 : Int32) (S : MS) (sz : Nat) : gMi l yX4_chargeOf wsX4_chargeOf ({ frames := 2, cells := 0, slots := 0, locals := 45 }) G 27 b (MW G.2 b n) [.ref (b 0), .int x1] S sz (f_X4_chargeOf n x1 S) := by
  unfold gMi
  refine Met.ofW (cc := cX4_chargeOf) (maxL := 2) (ret := (some .int)) (by decide) rfl ?_
  intro p e s m args below meth c s₁ B hml hv
  obtain ⟨rfl, rfl, hP, hK⟩ := hv
  have hx := B.exec
  have hb := B.bytes
  have hr := B.returns
  have hts := atoms_spec (ws := wsX4_chargeOf) B.pre
  have hown : s.vm.findClass RX4 = some m.cls := findClass_of_methodNamed B.named
  have hlocks := B.notSynchronized
  have hS : va_S (wA 27 b s.heap.size) s.heap s.heap [] := va_S.rf
  have hw4 : ∀ w ∈ wsX40, w.before ([.ref (b 0), .int x1] : List Value).toArray s = true := fun w hw => hts w ((by decide +kernel : ∀ w ∈ wsX40, w ∈ wsX4_chargeOf) w hw)
  have hl := lv_entry ([.ref (b 0), .int x1]) (n := 2) (Nat.le_of_ble_eq_true rfl)
  rw [lg_entry_eq]
  generalize (lg_sl ([.ref (b 0), .int x1] : List Value) ++ List.replicate (2 - (lg_sl ([.ref (b 0), .int x1] : List Value)).length) Slot.unset).toArray = ls at hl ⊢
  have hl : lv_has ls 2 [(0, .ref (b 0)), (1, .int x1)] := hl
  generalize hF : f_X4_chargeOf n x1 S = F
  have h : f_X4_chargeOf n x1 S = F := hF
  clear hF
  show W p l e ({ frames := 2, cells := 0, slots := 0, locals := 45 } : Room) s m ([.ref (b 0), .int x1] : List Value).toArray below meth c s.heap [] 0 0 (gQi below G (MW G.2 b n) 27 b F ([.ref (b 0), .int x1] : List Value).toArray s) (F0 m 0 ls [])
  rewrite [f_X4_chargeOf] at h
  refine lv_aload_n hx hb dX4_chargeOf_0 rfl (lv_at hl 0 rfl) ?_
  refine lv_aload_n hx hb dX4_chargeOf_1 rfl (lv_at hl 0 rfl) ?_
  refine mg hx hb hw4 hown hK hP 15 (by decide) (v := .ref (b 7)) rfl (hts (.fieldLink RX4 42 "BackupPowerModel" "charges" "[I") (by decide +kernel)) dX4_chargeOf_2 ?_
  refine lv_iload_n hx hb dX4_chargeOf_5 rfl (lv_at hl 1 rfl) ?_
  refine lv_aload_n hx hb dX4_chargeOf_6 rfl (lv_at hl 0 rfl) ?_
  refine mg hx hb hw4 hown hK hP 13 (by decide) (v := .int (nI n.2.1)) rfl (hts (.fieldLink RX4 116 "BackupPowerModel" "batteryMany" "I") (by decide +kernel)) dX4_chargeOf_7 ?_
  refine gcVi (wf := MW G.2 b n) (N := 27) (ad := b) (As := [.ref (b 7), .int x1, .int (nI n.2.1)]) (rest := []) (S := S) ⟨hx, hb, hml, hown, hts⟩ hK hP hS (c_X4_told l G b ha n hn 7 (by decide) x1 n.2.1 (show n.2.1 ≤ 3 by omega) S _) (cwV 3 hts gX4_chargeOf_X4_told rfl rfl rfl (by decide +kernel) ⟨Nat.le_of_ble_eq_true rfl, Nat.le_of_ble_eq_true rfl⟩) (mrO hK hP) rfl hl.1 rfl (Nat.le_of_ble_eq_true rfl) dX4_chargeOf_10 ⟨Nat.le_of_ble_eq_true rfl, Nat.le_of_ble_eq_true rfl⟩ (fun p10 H locs ep10 hP hS => ?_)
  rewrite [← ep10] at h
  rewrite [f_X4_chargeOf_c10] at h
  exact gRi (wf := MW G.2 b n) (S := p10.2) hx hb hr hlocks hP hS h dX4_chargeOf_13

def f_X4_capacityOf_c10 (n : Nat × Nat × Nat) (x1 : Int32) (p10 : Int32 × MS) : Int32 × MS := (p10.1, p10.2)
def f_X4_capacityOf (n : Nat × Nat × Nat) (x1 : Int32) (S : MS) : Int32 × MS := (f_X4_capacityOf_c10 n x1 (f_X4_told n 6 x1 n.2.1 S))
set_option maxHeartbeats 4000000 in
set_option maxRecDepth 100000 in
theorem c_X4_capacityOf (l : Launch) (G : WG) (b : Nat → Nat) (ha : wInj 27 b) (n : Nat × Nat × Nat) (hn : n.1 ≤ 10 ∧ n.2.1 ≤ 3 ∧ n.2.2 ≤ 3) (x1 : Int32) (S : MS) (sz : Nat) : gMi l yX4_capacityOf wsX4_capacityOf ({ frames := 2, cells := 0, slots := 0, locals := 45 }) G 27 b (MW G.2 b n) [.ref (b 0), .int x1] S sz (f_X4_capacityOf n x1 S) := by
  unfold gMi
  refine Met.ofW (cc := cX4_capacityOf) (maxL := 2) (ret := (some .int)) (by decide) rfl ?_
  intro p e s m args below meth c s₁ B hml hv
  obtain ⟨rfl, rfl, hP, hK⟩ := hv
  have hx := B.exec
  have hb := B.bytes
  have hr := B.returns
  have hts := atoms_spec (ws := wsX4_capacityOf) B.pre
  have hown : s.vm.findClass RX4 = some m.cls := findClass_of_methodNamed B.named
  have hlocks := B.notSynchronized
  have hS : va_S (wA 27 b s.heap.size) s.heap s.heap [] := va_S.rf
  have hw4 : ∀ w ∈ wsX40, w.before ([.ref (b 0), .int x1] : List Value).toArray s = true := fun w hw => hts w ((by decide +kernel : ∀ w ∈ wsX40, w ∈ wsX4_capacityOf) w hw)
  have hl := lv_entry ([.ref (b 0), .int x1]) (n := 2) (Nat.le_of_ble_eq_true rfl)
  rw [lg_entry_eq]
  generalize (lg_sl ([.ref (b 0), .int x1] : List Value) ++ List.replicate (2 - (lg_sl ([.ref (b 0), .int x1] : List Value)).length) Slot.unset).toArray = ls at hl ⊢
  have hl : lv_has ls 2 [(0, .ref (b 0)), (1, .int x1)] := hl
  generalize hF : f_X4_capacityOf n x1 S = F
  have h : f_X4_capacityOf n x1 S = F := hF
  clear hF
  show W p l e ({ frames := 2, cells := 0, slots := 0, locals := 45 } : Room) s m ([.ref (b 0), .int x1] : List Value).toArray below meth c s.heap [] 0 0 (gQi below G (MW G.2 b n) 27 b F ([.ref (b 0), .int x1] : List Value).toArray s) (F0 m 0 ls [])
  rewrite [f_X4_capacityOf] at h
  refine lv_aload_n hx hb dX4_capacityOf_0 rfl (lv_at hl 0 rfl) ?_
  refine lv_aload_n hx hb dX4_capacityOf_1 rfl (lv_at hl 0 rfl) ?_
  refine mg hx hb hw4 hown hK hP 14 (by decide) (v := .ref (b 6)) rfl (hts (.fieldLink RX4 39 "BackupPowerModel" "capacities" "[I") (by decide +kernel)) dX4_capacityOf_2 ?_
  refine lv_iload_n hx hb dX4_capacityOf_5 rfl (lv_at hl 1 rfl) ?_
  refine lv_aload_n hx hb dX4_capacityOf_6 rfl (lv_at hl 0 rfl) ?_
  refine mg hx hb hw4 hown hK hP 13 (by decide) (v := .int (nI n.2.1)) rfl (hts (.fieldLink RX4 116 "BackupPowerModel" "batteryMany" "I") (by decide +kernel)) dX4_capacityOf_7 ?_
  refine gcVi (wf := MW G.2 b n) (N := 27) (ad := b) (As := [.ref (b 6), .int x1, .int (nI n.2.1)]) (rest := []) (S := S) ⟨hx, hb, hml, hown, hts⟩ hK hP hS (c_X4_told l G b ha n hn 6 (by decide) x1 n.2.1 (show n.2.1 ≤ 3 by omega) S _) (cwV 3 hts gX4_capacityOf_X4_told rfl rfl rfl (by decide +kernel) ⟨Nat.le_of_ble_eq_true rfl, Nat.le_of_ble_eq_true rfl⟩) (mrO hK hP) rfl hl.1 rfl (Nat.le_of_ble_eq_true rfl) dX4_capacityOf_10 ⟨Nat.le_of_ble_eq_true rfl, Nat.le_of_ble_eq_true rfl⟩ (fun p10 H locs ep10 hP hS => ?_)
  rewrite [← ep10] at h
  rewrite [f_X4_capacityOf_c10] at h
  exact gRi (wf := MW G.2 b n) (S := p10.2) hx hb hr hlocks hP hS h dX4_capacityOf_13

def f_X4_fuelOf_c10 (n : Nat × Nat × Nat) (x1 : Int32) (p10 : Int32 × MS) : Int32 × MS := (p10.1, p10.2)
def f_X4_fuelOf (n : Nat × Nat × Nat) (x1 : Int32) (S : MS) : Int32 × MS := (f_X4_fuelOf_c10 n x1 (f_X4_told n 15 x1 n.2.2 S))
set_option maxHeartbeats 4000000 in
set_option maxRecDepth 100000 in
theorem c_X4_fuelOf (l : Launch) (G : WG) (b : Nat → Nat) (ha : wInj 27 b) (n : Nat × Nat × Nat) (hn : n.1 ≤ 10 ∧ n.2.1 ≤ 3 ∧ n.2.2 ≤ 3) (x1 : Int32) (S : MS) (sz : Nat) : gMi l yX4_fuelOf wsX4_fuelOf ({ frames := 2, cells := 0, slots := 0, locals := 45 }) G 27 b (MW G.2 b n) [.ref (b 0), .int x1] S sz (f_X4_fuelOf n x1 S) := by
  unfold gMi
  refine Met.ofW (cc := cX4_fuelOf) (maxL := 2) (ret := (some .int)) (by decide) rfl ?_
  intro p e s m args below meth c s₁ B hml hv
  obtain ⟨rfl, rfl, hP, hK⟩ := hv
  have hx := B.exec
  have hb := B.bytes
  have hr := B.returns
  have hts := atoms_spec (ws := wsX4_fuelOf) B.pre
  have hown : s.vm.findClass RX4 = some m.cls := findClass_of_methodNamed B.named
  have hlocks := B.notSynchronized
  have hS : va_S (wA 27 b s.heap.size) s.heap s.heap [] := va_S.rf
  have hw4 : ∀ w ∈ wsX40, w.before ([.ref (b 0), .int x1] : List Value).toArray s = true := fun w hw => hts w ((by decide +kernel : ∀ w ∈ wsX40, w ∈ wsX4_fuelOf) w hw)
  have hl := lv_entry ([.ref (b 0), .int x1]) (n := 2) (Nat.le_of_ble_eq_true rfl)
  rw [lg_entry_eq]
  generalize (lg_sl ([.ref (b 0), .int x1] : List Value) ++ List.replicate (2 - (lg_sl ([.ref (b 0), .int x1] : List Value)).length) Slot.unset).toArray = ls at hl ⊢
  have hl : lv_has ls 2 [(0, .ref (b 0)), (1, .int x1)] := hl
  generalize hF : f_X4_fuelOf n x1 S = F
  have h : f_X4_fuelOf n x1 S = F := hF
  clear hF
  show W p l e ({ frames := 2, cells := 0, slots := 0, locals := 45 } : Room) s m ([.ref (b 0), .int x1] : List Value).toArray below meth c s.heap [] 0 0 (gQi below G (MW G.2 b n) 27 b F ([.ref (b 0), .int x1] : List Value).toArray s) (F0 m 0 ls [])
  rewrite [f_X4_fuelOf] at h
  refine lv_aload_n hx hb dX4_fuelOf_0 rfl (lv_at hl 0 rfl) ?_
  refine lv_aload_n hx hb dX4_fuelOf_1 rfl (lv_at hl 0 rfl) ?_
  refine mg hx hb hw4 hown hK hP 24 (by decide) (v := .ref (b 15)) rfl (hts (.fieldLink RX4 66 "BackupPowerModel" "fuels" "[I") (by decide +kernel)) dX4_fuelOf_2 ?_
  refine lv_iload_n hx hb dX4_fuelOf_5 rfl (lv_at hl 1 rfl) ?_
  refine lv_aload_n hx hb dX4_fuelOf_6 rfl (lv_at hl 0 rfl) ?_
  refine mg hx hb hw4 hown hK hP 20 (by decide) (v := .int (nI n.2.2)) rfl (hts (.fieldLink RX4 113 "BackupPowerModel" "generatorMany" "I") (by decide +kernel)) dX4_fuelOf_7 ?_
  refine gcVi (wf := MW G.2 b n) (N := 27) (ad := b) (As := [.ref (b 15), .int x1, .int (nI n.2.2)]) (rest := []) (S := S) ⟨hx, hb, hml, hown, hts⟩ hK hP hS (c_X4_told l G b ha n hn 15 (by decide) x1 n.2.2 (show n.2.2 ≤ 3 by omega) S _) (cwV 3 hts gX4_fuelOf_X4_told rfl rfl rfl (by decide +kernel) ⟨Nat.le_of_ble_eq_true rfl, Nat.le_of_ble_eq_true rfl⟩) (mrO hK hP) rfl hl.1 rfl (Nat.le_of_ble_eq_true rfl) dX4_fuelOf_10 ⟨Nat.le_of_ble_eq_true rfl, Nat.le_of_ble_eq_true rfl⟩ (fun p10 H locs ep10 hP hS => ?_)
  rewrite [← ep10] at h
  rewrite [f_X4_fuelOf_c10] at h
  exact gRi (wf := MW G.2 b n) (S := p10.2) hx hb hr hlocks hP hS h dX4_fuelOf_13

def f_X4_energyOf_c10 (n : Nat × Nat × Nat) (x1 : Int32) (p10 : Int32 × MS) : Int32 × MS := (p10.1, p10.2)
def f_X4_energyOf (n : Nat × Nat × Nat) (x1 : Int32) (S : MS) : Int32 × MS := (f_X4_energyOf_c10 n x1 (f_X4_told n 4 x1 n.1 S))
set_option maxHeartbeats 4000000 in
set_option maxRecDepth 100000 in
theorem c_X4_energyOf (l : Launch) (G : WG) (b : Nat → Nat) (ha : wInj 27 b) (n : Nat × Nat × Nat) (hn : n.1 ≤ 10 ∧ n.2.1 ≤ 3 ∧ n.2.2 ≤ 3) (x1 : Int32) (S : MS) (sz : Nat) : gMi l yX4_energyOf wsX4_energyOf ({ frames := 2, cells := 0, slots := 0, locals := 45 }) G 27 b (MW G.2 b n) [.ref (b 0), .int x1] S sz (f_X4_energyOf n x1 S) := by
  unfold gMi
  refine Met.ofW (cc := cX4_energyOf) (maxL := 2) (ret := (some .int)) (by decide) rfl ?_
  intro p e s m args below meth c s₁ B hml hv
  obtain ⟨rfl, rfl, hP, hK⟩ := hv
  have hx := B.exec
  have hb := B.bytes
  have hr := B.returns
  have hts := atoms_spec (ws := wsX4_energyOf) B.pre
  have hown : s.vm.findClass RX4 = some m.cls := findClass_of_methodNamed B.named
  have hlocks := B.notSynchronized
  have hS : va_S (wA 27 b s.heap.size) s.heap s.heap [] := va_S.rf
  have hw4 : ∀ w ∈ wsX40, w.before ([.ref (b 0), .int x1] : List Value).toArray s = true := fun w hw => hts w ((by decide +kernel : ∀ w ∈ wsX40, w ∈ wsX4_energyOf) w hw)
  have hl := lv_entry ([.ref (b 0), .int x1]) (n := 2) (Nat.le_of_ble_eq_true rfl)
  rw [lg_entry_eq]
  generalize (lg_sl ([.ref (b 0), .int x1] : List Value) ++ List.replicate (2 - (lg_sl ([.ref (b 0), .int x1] : List Value)).length) Slot.unset).toArray = ls at hl ⊢
  have hl : lv_has ls 2 [(0, .ref (b 0)), (1, .int x1)] := hl
  generalize hF : f_X4_energyOf n x1 S = F
  have h : f_X4_energyOf n x1 S = F := hF
  clear hF
  show W p l e ({ frames := 2, cells := 0, slots := 0, locals := 45 } : Room) s m ([.ref (b 0), .int x1] : List Value).toArray below meth c s.heap [] 0 0 (gQi below G (MW G.2 b n) 27 b F ([.ref (b 0), .int x1] : List Value).toArray s) (F0 m 0 ls [])
  rewrite [f_X4_energyOf] at h
  refine lv_aload_n hx hb dX4_energyOf_0 rfl (lv_at hl 0 rfl) ?_
  refine lv_aload_n hx hb dX4_energyOf_1 rfl (lv_at hl 0 rfl) ?_
  refine mg hx hb hw4 hown hK hP 11 (by decide) (v := .ref (b 4)) rfl (hts (.fieldLink RX4 33 "BackupPowerModel" "energies" "[I") (by decide +kernel)) dX4_energyOf_2 ?_
  refine lv_iload_n hx hb dX4_energyOf_5 rfl (lv_at hl 1 rfl) ?_
  refine lv_aload_n hx hb dX4_energyOf_6 rfl (lv_at hl 0 rfl) ?_
  refine mg hx hb hw4 hown hK hP 7 (by decide) (v := .int (nI n.1)) rfl (hts (.fieldLink RX4 106 "BackupPowerModel" "loadMany" "I") (by decide +kernel)) dX4_energyOf_7 ?_
  refine gcVi (wf := MW G.2 b n) (N := 27) (ad := b) (As := [.ref (b 4), .int x1, .int (nI n.1)]) (rest := []) (S := S) ⟨hx, hb, hml, hown, hts⟩ hK hP hS (c_X4_told l G b ha n hn 4 (by decide) x1 n.1 (show n.1 ≤ 10 by omega) S _) (cwV 3 hts gX4_energyOf_X4_told rfl rfl rfl (by decide +kernel) ⟨Nat.le_of_ble_eq_true rfl, Nat.le_of_ble_eq_true rfl⟩) (mrO hK hP) rfl hl.1 rfl (Nat.le_of_ble_eq_true rfl) dX4_energyOf_10 ⟨Nat.le_of_ble_eq_true rfl, Nat.le_of_ble_eq_true rfl⟩ (fun p10 H locs ep10 hP hS => ?_)
  rewrite [← ep10] at h
  rewrite [f_X4_energyOf_c10] at h
  exact gRi (wf := MW G.2 b n) (S := p10.2) hx hb hr hlocks hP hS h dX4_energyOf_13

def f_X4_darkMinutes_c10 (n : Nat × Nat × Nat) (x1 : Int32) (p10 : Int32 × MS) : Int32 × MS := (p10.1, p10.2)
def f_X4_darkMinutes (n : Nat × Nat × Nat) (x1 : Int32) (S : MS) : Int32 × MS := (f_X4_darkMinutes_c10 n x1 (f_X4_told n 5 x1 n.1 S))
set_option maxHeartbeats 4000000 in
set_option maxRecDepth 100000 in
theorem c_X4_darkMinutes (l : Launch) (G : WG) (b : Nat → Nat) (ha : wInj 27 b) (n : Nat × Nat × Nat) (hn : n.1 ≤ 10 ∧ n.2.1 ≤ 3 ∧ n.2.2 ≤ 3) (x1 : Int32) (S : MS) (sz : Nat) : gMi l yX4_darkMinutes wsX4_darkMinutes ({ frames := 2, cells := 0, slots := 0, locals := 45 }) G 27 b (MW G.2 b n) [.ref (b 0), .int x1] S sz (f_X4_darkMinutes n x1 S) := by
  unfold gMi
  refine Met.ofW (cc := cX4_darkMinutes) (maxL := 2) (ret := (some .int)) (by decide) rfl ?_
  intro p e s m args below meth c s₁ B hml hv
  obtain ⟨rfl, rfl, hP, hK⟩ := hv
  have hx := B.exec
  have hb := B.bytes
  have hr := B.returns
  have hts := atoms_spec (ws := wsX4_darkMinutes) B.pre
  have hown : s.vm.findClass RX4 = some m.cls := findClass_of_methodNamed B.named
  have hlocks := B.notSynchronized
  have hS : va_S (wA 27 b s.heap.size) s.heap s.heap [] := va_S.rf
  have hw4 : ∀ w ∈ wsX40, w.before ([.ref (b 0), .int x1] : List Value).toArray s = true := fun w hw => hts w ((by decide +kernel : ∀ w ∈ wsX40, w ∈ wsX4_darkMinutes) w hw)
  have hl := lv_entry ([.ref (b 0), .int x1]) (n := 2) (Nat.le_of_ble_eq_true rfl)
  rw [lg_entry_eq]
  generalize (lg_sl ([.ref (b 0), .int x1] : List Value) ++ List.replicate (2 - (lg_sl ([.ref (b 0), .int x1] : List Value)).length) Slot.unset).toArray = ls at hl ⊢
  have hl : lv_has ls 2 [(0, .ref (b 0)), (1, .int x1)] := hl
  generalize hF : f_X4_darkMinutes n x1 S = F
  have h : f_X4_darkMinutes n x1 S = F := hF
  clear hF
  show W p l e ({ frames := 2, cells := 0, slots := 0, locals := 45 } : Room) s m ([.ref (b 0), .int x1] : List Value).toArray below meth c s.heap [] 0 0 (gQi below G (MW G.2 b n) 27 b F ([.ref (b 0), .int x1] : List Value).toArray s) (F0 m 0 ls [])
  rewrite [f_X4_darkMinutes] at h
  refine lv_aload_n hx hb dX4_darkMinutes_0 rfl (lv_at hl 0 rfl) ?_
  refine lv_aload_n hx hb dX4_darkMinutes_1 rfl (lv_at hl 0 rfl) ?_
  refine mg hx hb hw4 hown hK hP 12 (by decide) (v := .ref (b 5)) rfl (hts (.fieldLink RX4 36 "BackupPowerModel" "darks" "[I") (by decide +kernel)) dX4_darkMinutes_2 ?_
  refine lv_iload_n hx hb dX4_darkMinutes_5 rfl (lv_at hl 1 rfl) ?_
  refine lv_aload_n hx hb dX4_darkMinutes_6 rfl (lv_at hl 0 rfl) ?_
  refine mg hx hb hw4 hown hK hP 7 (by decide) (v := .int (nI n.1)) rfl (hts (.fieldLink RX4 106 "BackupPowerModel" "loadMany" "I") (by decide +kernel)) dX4_darkMinutes_7 ?_
  refine gcVi (wf := MW G.2 b n) (N := 27) (ad := b) (As := [.ref (b 5), .int x1, .int (nI n.1)]) (rest := []) (S := S) ⟨hx, hb, hml, hown, hts⟩ hK hP hS (c_X4_told l G b ha n hn 5 (by decide) x1 n.1 (show n.1 ≤ 10 by omega) S _) (cwV 3 hts gX4_darkMinutes_X4_told rfl rfl rfl (by decide +kernel) ⟨Nat.le_of_ble_eq_true rfl, Nat.le_of_ble_eq_true rfl⟩) (mrO hK hP) rfl hl.1 rfl (Nat.le_of_ble_eq_true rfl) dX4_darkMinutes_10 ⟨Nat.le_of_ble_eq_true rfl, Nat.le_of_ble_eq_true rfl⟩ (fun p10 H locs ep10 hP hS => ?_)
  rewrite [← ep10] at h
  rewrite [f_X4_darkMinutes_c10] at h
  exact gRi (wf := MW G.2 b n) (S := p10.2) hx hb hr hlocks hP hS h dX4_darkMinutes_13

def f_X4_failedStarts_c10 (n : Nat × Nat × Nat) (x1 : Int32) (p10 : Int32 × MS) : Int32 × MS := (p10.1, p10.2)
def f_X4_failedStarts (n : Nat × Nat × Nat) (x1 : Int32) (S : MS) : Int32 × MS := (f_X4_failedStarts_c10 n x1 (f_X4_told n 24 x1 n.2.2 S))
set_option maxHeartbeats 4000000 in
set_option maxRecDepth 100000 in
theorem c_X4_failedStarts (l : Launch) (G : WG) (b : Nat → Nat) (ha : wInj 27 b) (n : Nat × Nat × Nat) (hn : n.1 ≤ 10 ∧ n.2.1 ≤ 3 ∧ n.2.2 ≤ 3) (x1 : Int32) (S : MS) (sz : Nat) : gMi l yX4_failedStarts wsX4_failedStarts ({ frames := 2, cells := 0, slots := 0, locals := 45 }) G 27 b (MW G.2 b n) [.ref (b 0), .int x1] S sz (f_X4_failedStarts n x1 S) := by
  unfold gMi
  refine Met.ofW (cc := cX4_failedStarts) (maxL := 2) (ret := (some .int)) (by decide) rfl ?_
  intro p e s m args below meth c s₁ B hml hv
  obtain ⟨rfl, rfl, hP, hK⟩ := hv
  have hx := B.exec
  have hb := B.bytes
  have hr := B.returns
  have hts := atoms_spec (ws := wsX4_failedStarts) B.pre
  have hown : s.vm.findClass RX4 = some m.cls := findClass_of_methodNamed B.named
  have hlocks := B.notSynchronized
  have hS : va_S (wA 27 b s.heap.size) s.heap s.heap [] := va_S.rf
  have hw4 : ∀ w ∈ wsX40, w.before ([.ref (b 0), .int x1] : List Value).toArray s = true := fun w hw => hts w ((by decide +kernel : ∀ w ∈ wsX40, w ∈ wsX4_failedStarts) w hw)
  have hl := lv_entry ([.ref (b 0), .int x1]) (n := 2) (Nat.le_of_ble_eq_true rfl)
  rw [lg_entry_eq]
  generalize (lg_sl ([.ref (b 0), .int x1] : List Value) ++ List.replicate (2 - (lg_sl ([.ref (b 0), .int x1] : List Value)).length) Slot.unset).toArray = ls at hl ⊢
  have hl : lv_has ls 2 [(0, .ref (b 0)), (1, .int x1)] := hl
  generalize hF : f_X4_failedStarts n x1 S = F
  have h : f_X4_failedStarts n x1 S = F := hF
  clear hF
  show W p l e ({ frames := 2, cells := 0, slots := 0, locals := 45 } : Room) s m ([.ref (b 0), .int x1] : List Value).toArray below meth c s.heap [] 0 0 (gQi below G (MW G.2 b n) 27 b F ([.ref (b 0), .int x1] : List Value).toArray s) (F0 m 0 ls [])
  rewrite [f_X4_failedStarts] at h
  refine lv_aload_n hx hb dX4_failedStarts_0 rfl (lv_at hl 0 rfl) ?_
  refine lv_aload_n hx hb dX4_failedStarts_1 rfl (lv_at hl 0 rfl) ?_
  refine mg hx hb hw4 hown hK hP 33 (by decide) (v := .ref (b 24)) rfl (hts (.fieldLink RX4 94 "BackupPowerModel" "failed" "[I") (by decide +kernel)) dX4_failedStarts_2 ?_
  refine lv_iload_n hx hb dX4_failedStarts_5 rfl (lv_at hl 1 rfl) ?_
  refine lv_aload_n hx hb dX4_failedStarts_6 rfl (lv_at hl 0 rfl) ?_
  refine mg hx hb hw4 hown hK hP 20 (by decide) (v := .int (nI n.2.2)) rfl (hts (.fieldLink RX4 113 "BackupPowerModel" "generatorMany" "I") (by decide +kernel)) dX4_failedStarts_7 ?_
  refine gcVi (wf := MW G.2 b n) (N := 27) (ad := b) (As := [.ref (b 24), .int x1, .int (nI n.2.2)]) (rest := []) (S := S) ⟨hx, hb, hml, hown, hts⟩ hK hP hS (c_X4_told l G b ha n hn 24 (by decide) x1 n.2.2 (show n.2.2 ≤ 3 by omega) S _) (cwV 3 hts gX4_failedStarts_X4_told rfl rfl rfl (by decide +kernel) ⟨Nat.le_of_ble_eq_true rfl, Nat.le_of_ble_eq_true rfl⟩) (mrO hK hP) rfl hl.1 rfl (Nat.le_of_ble_eq_true rfl) dX4_failedStarts_10 ⟨Nat.le_of_ble_eq_true rfl, Nat.le_of_ble_eq_true rfl⟩ (fun p10 H locs ep10 hP hS => ?_)
  rewrite [← ep10] at h
  rewrite [f_X4_failedStarts_c10] at h
  exact gRi (wf := MW G.2 b n) (S := p10.2) hx hb hr hlocks hP hS h dX4_failedStarts_13
