def f_X4_pass_b49 (n : Nat × Nat × Nat) (x1 : Int32) (S49 : MS) (v2_49 : Int32) : Int32 × MS := (v2_49, S49)
def f_X4_pass_c38 (n : Nat × Nat × Nat) (x1 : Int32) (K24 : Nat → MS → Int32 → Int32 × MS) (k24 : Nat) (v2_24 : Int32) (p38 : Int32 × MS) : Int32 × MS := (K24 (k24 + 1) p38.2 (v2_24 + p38.1))
def f_X4_pass_h24 (n : Nat × Nat × Nat) (x1 : Int32) : Nat → Nat → MS → Int32 → Int32 × MS
  | 0, _, S24, _ => (0, S24)
  | q + 1, k24, S24, v2_24 => (if x1 ≤ (nI k24) then (f_X4_pass_b49 n x1 S24 v2_24) else (if (S24.1 0) = 0 then (f_X4_pass_c38 n x1 (f_X4_pass_h24 n x1 q) k24 v2_24 (f_X4_minute n S24)) else (f_X4_pass_b49 n x1 S24 v2_24)))
def f_X4_pass_b17 (n : Nat × Nat × Nat) (x1 : Int32) (S17 : MS) (s1_17 : Int32) : Int32 × MS := (f_X4_pass_h24 n x1 (x1.toNatClampNeg + 1) 0 (muS S17 0 s1_17) 0)
def f_X4_pass_c6 (n : Nat × Nat × Nat) (x1 : Int32) (p6 : Int32 × MS) : Int32 × MS := (if p6.1 = 0 then (f_X4_pass_b17 n x1 p6.2 1) else (f_X4_pass_b17 n x1 p6.2 0))
def f_X4_pass (n : Nat × Nat × Nat) (x1 : Int32) (S : MS) : Int32 × MS := (f_X4_pass_c6 n x1 (f_X4_in n x1 1 500 S))
set_option maxHeartbeats 4000000 in
set_option maxRecDepth 100000 in
theorem c_X4_pass (l : Launch) (G : WG) (b : Nat → Nat) (ha : wInj 27 b) (n : Nat × Nat × Nat) (hn : n.1 ≤ 10 ∧ n.2.1 ≤ 3 ∧ n.2.2 ≤ 3) (x1 : Int32) (S : MS) (hok : ∀ j, j < x1.toNatClampNeg → MInv n (itM n j (muS S 0 0))) (sz : Nat) : gMi l yX4_pass wsX4_pass ({ frames := 4, cells := 0, slots := 0, locals := 95 }) G 27 b (MW G.2 b n) [.ref (b 0), .int x1] S sz (f_X4_pass n x1 S) := by
  unfold gMi
  refine Met.ofW (cc := cX4_pass) (maxL := 4) (ret := (some .int)) (by decide) rfl ?_
  intro p e s m args below meth c s₁ B hml hv
  obtain ⟨rfl, rfl, hP, hK⟩ := hv
  have hx := B.exec
  have hb := B.bytes
  have hr := B.returns
  have hts := atoms_spec (ws := wsX4_pass) B.pre
  have hown : s.vm.findClass RX4 = some m.cls := findClass_of_methodNamed B.named
  have hlocks := B.notSynchronized
  have hS : va_S (wA 27 b s.heap.size) s.heap s.heap [] := va_S.rf
  have hw4 : ∀ w ∈ wsX40, w.before ([.ref (b 0), .int x1] : List Value).toArray s = true := fun w hw => hts w ((by decide +kernel : ∀ w ∈ wsX40, w ∈ wsX4_pass) w hw)
  have hl := lv_entry ([.ref (b 0), .int x1]) (n := 4) (Nat.le_of_ble_eq_true rfl)
  rw [lg_entry_eq]
  generalize (lg_sl ([.ref (b 0), .int x1] : List Value) ++ List.replicate (4 - (lg_sl ([.ref (b 0), .int x1] : List Value)).length) Slot.unset).toArray = ls at hl ⊢
  have hl : lv_has ls 4 [(0, .ref (b 0)), (1, .int x1)] := hl
  generalize hF : f_X4_pass n x1 S = F
  have h : f_X4_pass n x1 S = F := hF
  clear hF
  show W p l e ({ frames := 4, cells := 0, slots := 0, locals := 95 } : Room) s m ([.ref (b 0), .int x1] : List Value).toArray below meth c s.heap [] 0 0 (gQi below G (MW G.2 b n) 27 b F ([.ref (b 0), .int x1] : List Value).toArray s) (F0 m 0 ls [])
  have J17 : ∀ (S17 : MS) (s1_17 : Int32), (isB s1_17) → (S17 = S) → f_X4_pass_b17 n x1 S17 s1_17 = F → ∀ (H : Heap) (locs : List Loc) (ls : Array Slot), wM G b n S17 H → va_S (wA 27 b s.heap.size) s.heap H locs → lv_has ls 4 [(0, .ref (b 0)), (1, .int x1)] → W p l e ({ frames := 4, cells := 0, slots := 0, locals := 95 } : Room) s m ([.ref (b 0), .int x1] : List Value).toArray below meth c H locs 0 0 (gQi below G (MW G.2 b n) 27 b F ([.ref (b 0), .int x1] : List Value).toArray s) (F0 m 17 ls [.int s1_17, .ref (b 0)]) := by
    intro S17 s1_17 hbs1_17 hS17 h H locs ls hP hS hl
    have L24 : ∀ (q24 : Nat) (k24 : Nat) (S24 : MS) (v2_24 : Int32), k24 ≤ x1.toNatClampNeg → x1.toNatClampNeg < k24 + q24 → (S24.1 0 = 0 → S24 = itM n k24 (muS S 0 0)) → f_X4_pass_h24 n x1 q24 k24 S24 v2_24 = F → ∀ (H : Heap) (locs : List Loc) (ls : Array Slot), wM G b n S24 H → va_S (wA 27 b s.heap.size) s.heap H locs → lv_has ls 4 [(0, .ref (b 0)), (1, .int x1), (2, .int v2_24), (3, .int (nI k24))] → W p l e ({ frames := 4, cells := 0, slots := 0, locals := 95 } : Room) s m ([.ref (b 0), .int x1] : List Value).toArray below meth c H locs 0 0 (gQi below G (MW G.2 b n) 27 b F ([.ref (b 0), .int x1] : List Value).toArray s) (F0 m 24 ls []) := by
      intro q24
      induction q24 with
      | zero => intro k24 S24 v2_24 hk24 hq24 hM24 h H locs ls hP hS hl; omega
      | succ q24 ih24 =>
        intro k24 S24 v2_24 hk24 hq24 hM24 h H locs ls hP hS hl
        have J49 : ∀ (S49 : MS) (v2_49 : Int32), f_X4_pass_b49 n x1 S49 v2_49 = F → ∀ (H : Heap) (locs : List Loc) (ls : Array Slot), wM G b n S49 H → va_S (wA 27 b s.heap.size) s.heap H locs → lv_has ls 4 [(2, .int v2_49)] → W p l e ({ frames := 4, cells := 0, slots := 0, locals := 95 } : Room) s m ([.ref (b 0), .int x1] : List Value).toArray below meth c H locs 0 0 (gQi below G (MW G.2 b n) 27 b F ([.ref (b 0), .int x1] : List Value).toArray s) (F0 m 49 ls []) := by
          intro S49 v2_49 h H locs ls hP hS hl
          rewrite [f_X4_pass_b49] at h
          refine lv_iload_n hx hb dX4_pass_49 rfl (lv_at hl 0 rfl) ?_
          exact gRi (wf := MW G.2 b n) (S := S49) hx hb hr hlocks hP hS h dX4_pass_50
        rewrite [f_X4_pass_h24] at h
        refine lv_iload_n hx hb dX4_pass_24 rfl (lv_at hl 3 rfl) ?_
        refine lv_iload_n hx hb dX4_pass_25 rfl (lv_at hl 1 rfl) ?_
        refine lv_icmp_ge (tgt := 49) hx hb dX4_pass_26 (by decide) (fun c26 => ?_) (fun c26 => ?_)
        · rewrite [if_pos c26] at h
          exact J49 S24 v2_24 h _ _ _ hP hS (lv_sub hl [2] rfl)
        · rewrite [if_neg c26] at h
          have hkb24 := pb_lt hk24 c26
          refine lv_aload_n hx hb dX4_pass_29 rfl (lv_at hl 0 rfl) ?_
          refine mg hx hb hw4 hown hK hP 0 (by decide) (v := .int (S24.1 0)) rfl (hts (.fieldLink RX4 103 "BackupPowerModel" "thrown" "I") (by decide +kernel)) dX4_pass_30 ?_
          refine lv_if_ne (tgt := 49) hx hb dX4_pass_33 (by decide) (fun c33 => ?_) (fun c33 => ?_)
          · rewrite [if_neg c33] at h
            exact J49 S24 v2_24 h _ _ _ hP hS (lv_sub hl [2] rfl)
          · rewrite [if_pos c33] at h
            refine lv_iload_n hx hb dX4_pass_36 rfl (lv_at hl 2 rfl) ?_
            refine lv_aload_n hx hb dX4_pass_37 rfl (lv_at hl 0 rfl) ?_
            refine gcVi (wf := MW G.2 b n) (N := 27) (ad := b) (As := []) (rest := [.int v2_24]) (S := S24) ⟨hx, hb, hml, hown, hts⟩ hK hP hS (c_X4_minute l G b ha n hn S24 (by rw [hM24 c33]; exact hok _ hkb24) _) (cwV 0 hts gX4_pass_X4_minute rfl rfl rfl (by decide +kernel) ⟨Nat.le_of_ble_eq_true rfl, Nat.le_of_ble_eq_true rfl⟩) (mrO hK hP) rfl hl.1 rfl (Nat.le_of_ble_eq_true rfl) dX4_pass_38 ⟨Nat.le_of_ble_eq_true rfl, Nat.le_of_ble_eq_true rfl⟩ (fun p38 H locs ep38 hP hS => ?_)
            rewrite [← ep38] at h
            rewrite [f_X4_pass_c38] at h
            refine lv_iadd hx hb dX4_pass_41 ?_
            refine lv_istore_n (lv' := [(2, .int (v2_24 + p38.1)), (0, .ref (b 0)), (1, .int x1), (3, .int (nI k24))]) hx hb dX4_pass_42 rfl hl (by decide) rfl (fun ls hl => ?_)
            refine lv_iinc (k := 3) (v := nI (k24 + 1)) (lv' := [(3, .int (nI (k24 + 1))), (2, .int (v2_24 + p38.1)), (0, .ref (b 0)), (1, .int x1)]) hx hb dX4_pass_43 hl rfl (nI_inc _) (by decide) rfl (fun ls hl => ?_)
            refine lv_goto (tgt := 24) hx hb dX4_pass_46 (by decide) ?_
            exact ih24 (k24 + 1) p38.2 (v2_24 + p38.1) (by omega) (by omega) (fun _ => by rw [ep38, hM24 c33]; rfl) h _ _ _ hP hS (lv_sub hl [2, 3, 1, 0] rfl)
    rewrite [f_X4_pass_b17] at h
    refine mp hx hb hw4 hown hK ha hP hS 0 (by decide) rfl rfl okI (hts (.fieldLink RX4 103 "BackupPowerModel" "thrown" "I") (by decide +kernel)) dX4_pass_17 (fun H locs hP hS => ?_)
    refine lv_iconst (v := 0) hx hb dX4_pass_20 (by decide) ?_
    refine lv_istore_n (lv' := [(2, .int 0), (0, .ref (b 0)), (1, .int x1)]) hx hb dX4_pass_21 rfl hl (by decide) rfl (fun ls hl => ?_)
    refine lv_iconst (v := 0) hx hb dX4_pass_22 (by decide) ?_
    refine lv_istore_n (lv' := [(3, .int 0), (2, .int 0), (0, .ref (b 0)), (1, .int x1)]) hx hb dX4_pass_23 rfl hl (by decide) rfl (fun ls hl => ?_)
    exact L24 (x1.toNatClampNeg + 1) 0 (muS S17 0 s1_17) 0 (Nat.zero_le _) (by omega) (fun z => pass_ent hS17 z) h _ _ _ hP hS (lv_sub hl [2, 3, 1, 0] rfl)
  rewrite [f_X4_pass] at h
  refine lv_aload_n hx hb dX4_pass_0 rfl (lv_at hl 0 rfl) ?_
  refine lv_iload_n hx hb dX4_pass_1 rfl (lv_at hl 1 rfl) ?_
  refine lv_iconst (v := 1) hx hb dX4_pass_2 (by decide) ?_
  refine lv_sipush (v := 500) hx hb dX4_pass_3 (by decide) ?_
  refine gcSz (wf := MW G.2 b n) (N := 27) (ad := b) (As := [.int x1, .int 1, .int 500]) (rest := [.ref (b 0)]) (S := S) ⟨hx, hb, hml, hown, hts⟩ hK hP hS (c_X4_in l G b ha n hn x1 1 500 S _) (va_cwS 3 hts gX4_pass_X4_in rfl rfl rfl (by decide +kernel) ⟨Nat.le_of_ble_eq_true rfl, Nat.le_of_ble_eq_true rfl⟩) rfl hl.1 rfl (Nat.le_of_ble_eq_true rfl) dX4_pass_6 ⟨Nat.le_of_ble_eq_true rfl, Nat.le_of_ble_eq_true rfl⟩ (fun p6 H locs ep6 hbp6 hP hS => ?_)
  rewrite [← ep6] at h
  rewrite [f_X4_pass_c6] at h
  refine lv_if_eq (tgt := 16) hx hb dX4_pass_9 (by decide) (fun c9 => ?_) (fun c9 => ?_)
  · rewrite [if_pos c9] at h
    refine lv_iconst (v := 1) hx hb dX4_pass_16 (by decide) ?_
    exact J17 p6.2 1 isB_1 (in_2 ep6) h _ _ _ hP hS (lv_sub hl [0, 1] rfl)
  · rewrite [if_neg c9] at h
    refine lv_iconst (v := 0) hx hb dX4_pass_12 (by decide) ?_
    refine lv_goto (tgt := 17) hx hb dX4_pass_13 (by decide) ?_
    exact J17 p6.2 0 isB_0 (in_2 ep6) h _ _ _ hP hS (lv_sub hl [0, 1] rfl)
