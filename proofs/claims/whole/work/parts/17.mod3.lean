def f_X4_sheds_b50 (n : Nat × Nat × Nat) (S50 : MS) (v1_50 : Int32) : Int32 × MS := (v1_50, S50)
def f_X4_sheds_c39 (n : Nat × Nat × Nat) (K16 : MS → Int32 → Int32 → Int32 × MS) (v1_16 : Int32) (v2_16 : Int32) (p39 : Int32 × MS) : Int32 × MS := (K16 (muA p39.2 3 p39.1.toNatClampNeg 2) (v1_16 + 1) v2_16)
def f_X4_sheds_c24 (n : Nat × Nat × Nat) (K16 : MS → Int32 → Int32 → Int32 × MS) (v1_16 : Int32) (v2_16 : Int32) (p24 : Int32 × MS) : Int32 × MS := (if p24.1 ≤ v2_16 then (f_X4_sheds_b50 n p24.2 v1_16) else (f_X4_sheds_c39 n K16 v1_16 v2_16 (f_X4_inOrder n 1 0 0 p24.2)))
def f_X4_sheds_h16 (n : Nat × Nat × Nat) : Nat → MS → Int32 → Int32 → Int32 × MS
  | 0, S16, _, _ => (0, S16)
  | q + 1, S16, v1_16, v2_16 => (if (S16.1 2) = 0 then (f_X4_sheds_c24 n (f_X4_sheds_h16 n q) v1_16 v2_16 (f_X4_needed n S16)) else (f_X4_sheds_b50 n S16 v1_16))
def f_X4_sheds_c11 (n : Nat × Nat × Nat) (p3 : Int32 × MS) (p11 : Int32 × MS) : Int32 × MS := (f_X4_sheds_h16 n (n.1 + 1) p11.2 0 (p3.1 + p11.1))
def f_X4_sheds_c3 (n : Nat × Nat × Nat) (p3 : Int32 × MS) : Int32 × MS := (f_X4_sheds_c11 n p3 (f_X4_fromBatteriesNow n 7 p3.2))
def f_X4_sheds (n : Nat × Nat × Nat) (S : MS) : Int32 × MS := (f_X4_sheds_c3 n (f_X4_fromGeneratorsNow n S))
set_option maxHeartbeats 4000000 in
set_option maxRecDepth 100000 in
theorem c_X4_sheds (l : Launch) (G : WG) (b : Nat → Nat) (ha : wInj 27 b) (n : Nat × Nat × Nat) (hn : n.1 ≤ 10 ∧ n.2.1 ≤ 3 ∧ n.2.2 ≤ 3) (S : MS) (hI : shOk n S) (sz : Nat) : gMi l yX4_sheds wsX4_sheds ({ frames := 2, cells := 0, slots := 0, locals := 52 }) G 27 b (MW G.2 b n) [.ref (b 0)] S sz (f_X4_sheds n S) := by
  unfold gMi
  refine Met.ofW (cc := cX4_sheds) (maxL := 3) (ret := (some .int)) (by decide) rfl ?_
  intro p e s m args below meth c s₁ B hml hv
  obtain ⟨rfl, rfl, hP, hK⟩ := hv
  have hx := B.exec
  have hb := B.bytes
  have hr := B.returns
  have hts := atoms_spec (ws := wsX4_sheds) B.pre
  have hown : s.vm.findClass RX4 = some m.cls := findClass_of_methodNamed B.named
  have hlocks := B.notSynchronized
  have hS : va_S (wA 27 b s.heap.size) s.heap s.heap [] := va_S.rf
  have hw4 : ∀ w ∈ wsX40, w.before ([.ref (b 0)] : List Value).toArray s = true := fun w hw => hts w ((by decide +kernel : ∀ w ∈ wsX40, w ∈ wsX4_sheds) w hw)
  have hl := lv_entry ([.ref (b 0)]) (n := 3) (Nat.le_of_ble_eq_true rfl)
  rw [lg_entry_eq]
  generalize (lg_sl ([.ref (b 0)] : List Value) ++ List.replicate (3 - (lg_sl ([.ref (b 0)] : List Value)).length) Slot.unset).toArray = ls at hl ⊢
  have hl : lv_has ls 3 [(0, .ref (b 0))] := hl
  generalize hF : f_X4_sheds n S = F
  have h : f_X4_sheds n S = F := hF
  clear hF
  show W p l e ({ frames := 2, cells := 0, slots := 0, locals := 52 } : Room) s m ([.ref (b 0)] : List Value).toArray below meth c s.heap [] 0 0 (gQi below G (MW G.2 b n) 27 b F ([.ref (b 0)] : List Value).toArray s) (F0 m 0 ls [])
  have L16 : ∀ (q16 : Nat) (S16 : MS) (v1_16 : Int32) (v2_16 : Int32), srv n S16 < q16 → rpOk (S16.2 1) (S16.2 2) n.1 → 0 ≤ v2_16.toInt → f_X4_sheds_h16 n q16 S16 v1_16 v2_16 = F → ∀ (H : Heap) (locs : List Loc) (ls : Array Slot), wM G b n S16 H → va_S (wA 27 b s.heap.size) s.heap H locs → lv_has ls 3 [(0, .ref (b 0)), (1, .int v1_16), (2, .int v2_16)] → W p l e ({ frames := 2, cells := 0, slots := 0, locals := 52 } : Room) s m ([.ref (b 0)] : List Value).toArray below meth c H locs 0 0 (gQi below G (MW G.2 b n) 27 b F ([.ref (b 0)] : List Value).toArray s) (F0 m 16 ls []) := by
    intro q16
    induction q16 with
    | zero => intro S16 v1_16 v2_16 hmu16 hI16 hcan16 h H locs ls hP hS hl; exact absurd hmu16 (Nat.not_lt_zero _)
    | succ q16 ih16 =>
      intro S16 v1_16 v2_16 hmu16 hI16 hcan16 h H locs ls hP hS hl
      have J50 : ∀ (S50 : MS) (v1_50 : Int32), f_X4_sheds_b50 n S50 v1_50 = F → ∀ (H : Heap) (locs : List Loc) (ls : Array Slot), wM G b n S50 H → va_S (wA 27 b s.heap.size) s.heap H locs → lv_has ls 3 [(1, .int v1_50)] → W p l e ({ frames := 2, cells := 0, slots := 0, locals := 52 } : Room) s m ([.ref (b 0)] : List Value).toArray below meth c H locs 0 0 (gQi below G (MW G.2 b n) 27 b F ([.ref (b 0)] : List Value).toArray s) (F0 m 50 ls []) := by
        intro S50 v1_50 h H locs ls hP hS hl
        rewrite [f_X4_sheds_b50] at h
        refine lv_iload_n hx hb dX4_sheds_50 rfl (lv_at hl 0 rfl) ?_
        exact gRi (wf := MW G.2 b n) (S := S50) hx hb hr hlocks hP hS h dX4_sheds_51
      rewrite [f_X4_sheds_h16] at h
      refine lv_aload_n hx hb dX4_sheds_16 rfl (lv_at hl 0 rfl) ?_
      refine mg hx hb hw4 hown hK hP 2 (by decide) (v := .int (S16.1 2)) rfl (hts (.fieldLink RX4 7 "BackupPowerModel" "areUp" "Z") (by decide +kernel)) dX4_sheds_17 ?_
      refine lv_if_ne (tgt := 50) hx hb dX4_sheds_20 (by decide) (fun c20 => ?_) (fun c20 => ?_)
      · rewrite [if_neg c20] at h
        exact J50 S16 v1_16 h _ _ _ hP hS (lv_sub hl [1] rfl)
      · rewrite [if_pos c20] at h
        refine lv_aload_n hx hb dX4_sheds_23 rfl (lv_at hl 0 rfl) ?_
        refine gcVi (wf := MW G.2 b n) (N := 27) (ad := b) (As := []) (rest := []) (S := S16) ⟨hx, hb, hml, hown, hts⟩ hK hP hS (c_X4_needed l G b ha n hn S16 _) (cwV 0 hts gX4_sheds_X4_needed rfl rfl rfl (by decide +kernel) ⟨Nat.le_of_ble_eq_true rfl, Nat.le_of_ble_eq_true rfl⟩) (mrO hK hP) rfl hl.1 rfl (Nat.le_of_ble_eq_true rfl) dX4_sheds_24 ⟨Nat.le_of_ble_eq_true rfl, Nat.le_of_ble_eq_true rfl⟩ (fun p24 H locs ep24 hP hS => ?_)
        rewrite [← ep24] at h
        rewrite [f_X4_sheds_c24] at h
        refine lv_iload_n hx hb dX4_sheds_27 rfl (lv_at hl 2 rfl) ?_
        refine lv_icmp_le (tgt := 50) hx hb dX4_sheds_28 (by decide) (fun c28 => ?_) (fun c28 => ?_)
        · rewrite [if_pos c28] at h
          exact J50 p24.2 v1_16 h _ _ _ hP hS (lv_sub hl [1] rfl)
        · rewrite [if_neg c28] at h
          refine lv_aload_n hx hb dX4_sheds_31 rfl (lv_at hl 0 rfl) ?_
          refine mg hx hb hw4 hown hK hP 10 (by decide) (v := .ref (b 3)) rfl (hts (.fieldLink RX4 30 "BackupPowerModel" "states" "[I") (by decide +kernel)) dX4_sheds_32 ?_
          refine lv_aload_n hx hb dX4_sheds_35 rfl (lv_at hl 0 rfl) ?_
          refine lv_iconst (v := 1) hx hb dX4_sheds_36 (by decide) ?_
          refine lv_iconst (v := 0) hx hb dX4_sheds_37 (by decide) ?_
          refine lv_iconst (v := 0) hx hb dX4_sheds_38 (by decide) ?_
          refine gcVi (wf := MW G.2 b n) (N := 27) (ad := b) (As := [.int 1, .int 0, .int 0]) (rest := [.ref (b 3)]) (S := p24.2) ⟨hx, hb, hml, hown, hts⟩ hK hP hS (c_X4_inOrder l G b ha n hn 1 0 0 p24.2 _) (cwV 3 hts gX4_sheds_X4_inOrder rfl rfl rfl (by decide +kernel) ⟨Nat.le_of_ble_eq_true rfl, Nat.le_of_ble_eq_true rfl⟩) (mrO hK hP) rfl hl.1 rfl (Nat.le_of_ble_eq_true rfl) dX4_sheds_39 ⟨Nat.le_of_ble_eq_true rfl, Nat.le_of_ble_eq_true rfl⟩ (fun p39 H locs ep39 hP hS => ?_)
          rewrite [← ep39] at h
          rewrite [f_X4_sheds_c39] at h
          refine lv_iconst (v := 2) hx hb dX4_sheds_42 (by decide) ?_
          refine mstI hx hb hK ha hP hS 3 (by decide) (sheds_in hn hI16 hcan16 ep24 c28 ep39) dX4_sheds_43 (fun H locs hP hS => ?_)
          refine lv_iinc (k := 1) (v := v1_16 + 1) (lv' := [(1, .int (v1_16 + 1)), (0, .ref (b 0)), (2, .int v2_16)]) hx hb dX4_sheds_44 hl rfl (iI_p1 _) (by decide) rfl (fun ls hl => ?_)
          refine lv_goto (tgt := 16) hx hb dX4_sheds_47 (by decide) ?_
          exact ih16 (muA p39.2 3 p39.1.toNatClampNeg 2) (v1_16 + 1) v2_16 (sheds_mu hn hI16 hcan16 ep24 c28 ep39 hmu16) (sheds_rp hn hI16 hcan16 ep24 c28 ep39) hcan16 h _ _ _ hP hS (lv_sub hl [1, 0, 2] rfl)
  rewrite [f_X4_sheds] at h
  refine lv_iconst (v := 0) hx hb dX4_sheds_0 (by decide) ?_
  refine lv_istore_n (lv' := [(1, .int 0), (0, .ref (b 0))]) hx hb dX4_sheds_1 rfl hl (by decide) rfl (fun ls hl => ?_)
  refine lv_aload_n hx hb dX4_sheds_2 rfl (lv_at hl 1 rfl) ?_
  refine gcVi (wf := MW G.2 b n) (N := 27) (ad := b) (As := []) (rest := []) (S := S) ⟨hx, hb, hml, hown, hts⟩ hK hP hS (c_X4_fromGeneratorsNow l G b ha n hn S _) (cwV 0 hts gX4_sheds_X4_fromGeneratorsNow rfl rfl rfl (by decide +kernel) ⟨Nat.le_of_ble_eq_true rfl, Nat.le_of_ble_eq_true rfl⟩) (mrO hK hP) rfl hl.1 rfl (Nat.le_of_ble_eq_true rfl) dX4_sheds_3 ⟨Nat.le_of_ble_eq_true rfl, Nat.le_of_ble_eq_true rfl⟩ (fun p3 H locs ep3 hP hS => ?_)
  rewrite [← ep3] at h
  rewrite [f_X4_sheds_c3] at h
  refine lv_aload_n hx hb dX4_sheds_6 rfl (lv_at hl 1 rfl) ?_
  refine lv_aload_n hx hb dX4_sheds_7 rfl (lv_at hl 1 rfl) ?_
  refine mg hx hb hw4 hown hK hP 15 (by decide) (v := .ref (b 7)) rfl (hts (.fieldLink RX4 42 "BackupPowerModel" "charges" "[I") (by decide +kernel)) dX4_sheds_8 ?_
  refine gcVi (wf := MW G.2 b n) (N := 27) (ad := b) (As := [.ref (b 7)]) (rest := [.int p3.1]) (S := p3.2) ⟨hx, hb, hml, hown, hts⟩ hK hP hS (c_X4_fromBatteriesNow l G b ha n hn 7 (by decide) (by decide) p3.2 _) (cwV 1 hts gX4_sheds_X4_fromBatteriesNow rfl rfl rfl (by decide +kernel) ⟨Nat.le_of_ble_eq_true rfl, Nat.le_of_ble_eq_true rfl⟩) (mrO hK hP) rfl hl.1 rfl (Nat.le_of_ble_eq_true rfl) dX4_sheds_11 ⟨Nat.le_of_ble_eq_true rfl, Nat.le_of_ble_eq_true rfl⟩ (fun p11 H locs ep11 hP hS => ?_)
  rewrite [← ep11] at h
  rewrite [f_X4_sheds_c11] at h
  refine lv_iadd hx hb dX4_sheds_14 ?_
  refine lv_istore_n (lv' := [(2, .int (p3.1 + p11.1)), (1, .int 0), (0, .ref (b 0))]) hx hb dX4_sheds_15 rfl hl (by decide) rfl (fun ls hl => ?_)
  exact L16 (n.1 + 1) p11.2 0 (p3.1 + p11.1) (Nat.lt_succ_of_le (cnt_le _ _)) (sheds_rp0 ep3 ep11 hI) (sheds_can0 ep3 ep11 hI) h _ _ _ hP hS (lv_sub hl [2, 1, 0] rfl)

def f_X4_returns_b87 (n : Nat × Nat × Nat) (S87 : MS) : MS := S87
def f_X4_returns_b72 (n : Nat × Nat × Nat) (S72 : MS) (v1_72 : Int32) : MS := (f_X4_returns_b87 n (muS (muA S72 3 v1_72.toNatClampNeg 1) 6 ((muA S72 3 v1_72.toNatClampNeg 1).1 1)))
def f_X4_returns_c66 (n : Nat × Nat × Nat) (v1_37 : Int32) (p55 : Int32 × MS) (p66 : Int32 × MS) : MS := (if p66.1 < (p55.1 + (p55.2.2 2 v1_37.toNatClampNeg)) then (f_X4_returns_b87 n p66.2) else (f_X4_returns_b72 n p66.2 v1_37))
def f_X4_returns_c55 (n : Nat × Nat × Nat) (v1_37 : Int32) (p55 : Int32 × MS) : MS := (f_X4_returns_c66 n v1_37 p55 (f_X4_fromGeneratorsNow n p55.2))
def f_X4_returns_b37 (n : Nat × Nat × Nat) (S37 : MS) (v1_37 : Int32) (s0_37 : Int32) : MS := (if v1_37 = (-1) then (f_X4_returns_b87 n S37) else (if s0_37 = 0 then (f_X4_returns_b87 n S37) else (if (S37.1 2) = 0 then (f_X4_returns_c55 n v1_37 (f_X4_needed n S37)) else (f_X4_returns_b72 n S37 v1_37))))
def f_X4_returns_b32 (n : Nat × Nat × Nat) (S32 : MS) (v1_32 : Int32) : MS := (f_X4_returns_b37 n S32 v1_32 1)
def f_X4_returns_c4 (n : Nat × Nat × Nat) (p4 : Int32 × MS) : MS := (if (p4.2.1 6) = (-1) then (f_X4_returns_b32 n p4.2 p4.1) else (if ((p4.2.1 1) - (p4.2.1 6)) < (p4.2.1 5) then (f_X4_returns_b37 n p4.2 p4.1 0) else (f_X4_returns_b32 n p4.2 p4.1)))
def f_X4_returns (n : Nat × Nat × Nat) (S : MS) : MS := (f_X4_returns_c4 n (f_X4_inOrder n 2 0 1 S))
set_option maxHeartbeats 4000000 in
set_option maxRecDepth 100000 in
theorem c_X4_returns (l : Launch) (G : WG) (b : Nat → Nat) (ha : wInj 27 b) (n : Nat × Nat × Nat) (hn : n.1 ≤ 10 ∧ n.2.1 ≤ 3 ∧ n.2.2 ≤ 3) (S : MS) (sz : Nat) : gMv l yX4_returns wsX4_returns ({ frames := 2, cells := 0, slots := 0, locals := 52 }) G 27 b (MW G.2 b n) [.ref (b 0)] S sz (f_X4_returns n S) := by
  unfold gMv
  refine Met.ofW (cc := cX4_returns) (maxL := 3) (ret := none) (by decide) rfl ?_
  intro p e s m args below meth c s₁ B hml hv
  obtain ⟨rfl, rfl, hP, hK⟩ := hv
  have hx := B.exec
  have hb := B.bytes
  have hr := B.returns
  have hts := atoms_spec (ws := wsX4_returns) B.pre
  have hown : s.vm.findClass RX4 = some m.cls := findClass_of_methodNamed B.named
  have hlocks := B.notSynchronized
  have hS : va_S (wA 27 b s.heap.size) s.heap s.heap [] := va_S.rf
  have hw4 : ∀ w ∈ wsX40, w.before ([.ref (b 0)] : List Value).toArray s = true := fun w hw => hts w ((by decide +kernel : ∀ w ∈ wsX40, w ∈ wsX4_returns) w hw)
  have hl := lv_entry ([.ref (b 0)]) (n := 3) (Nat.le_of_ble_eq_true rfl)
  rw [lg_entry_eq]
  generalize (lg_sl ([.ref (b 0)] : List Value) ++ List.replicate (3 - (lg_sl ([.ref (b 0)] : List Value)).length) Slot.unset).toArray = ls at hl ⊢
  have hl : lv_has ls 3 [(0, .ref (b 0))] := hl
  generalize hF : f_X4_returns n S = F
  have h : f_X4_returns n S = F := hF
  clear hF
  show W p l e ({ frames := 2, cells := 0, slots := 0, locals := 52 } : Room) s m ([.ref (b 0)] : List Value).toArray below meth c s.heap [] 0 0 (gQv below G (MW G.2 b n) 27 b F ([.ref (b 0)] : List Value).toArray s) (F0 m 0 ls [])
  have J37 : ∀ (S37 : MS) (v1_37 : Int32) (s0_37 : Int32), (isB s0_37) → (¬ v1_37 = -1 → vp_in v1_37 10) → f_X4_returns_b37 n S37 v1_37 s0_37 = F → ∀ (H : Heap) (locs : List Loc) (ls : Array Slot), wM G b n S37 H → va_S (wA 27 b s.heap.size) s.heap H locs → lv_has ls 3 [(0, .ref (b 0)), (1, .int v1_37)] → W p l e ({ frames := 2, cells := 0, slots := 0, locals := 52 } : Room) s m ([.ref (b 0)] : List Value).toArray below meth c H locs 0 0 (gQv below G (MW G.2 b n) 27 b F ([.ref (b 0)] : List Value).toArray s) (F0 m 37 ls [.int s0_37]) := by
    intro S37 v1_37 s0_37 hbs0_37 hj37 h H locs ls hP hS hl
    have J87 : ∀ (S87 : MS), f_X4_returns_b87 n S87 = F → ∀ (H : Heap) (locs : List Loc) (ls : Array Slot), wM G b n S87 H → va_S (wA 27 b s.heap.size) s.heap H locs → lv_has ls 3 [] → W p l e ({ frames := 2, cells := 0, slots := 0, locals := 52 } : Room) s m ([.ref (b 0)] : List Value).toArray below meth c H locs 0 0 (gQv below G (MW G.2 b n) 27 b F ([.ref (b 0)] : List Value).toArray s) (F0 m 87 ls []) := by
      intro S87 h H locs ls hP hS hl
      rewrite [f_X4_returns_b87] at h
      exact gRv (wf := MW G.2 b n) (S := S87) hx hb hr hlocks hP hS h dX4_returns_87
    have J72 : ∀ (S72 : MS) (v1_72 : Int32), (vp_in v1_72 10) → f_X4_returns_b72 n S72 v1_72 = F → ∀ (H : Heap) (locs : List Loc) (ls : Array Slot), wM G b n S72 H → va_S (wA 27 b s.heap.size) s.heap H locs → lv_has ls 3 [(0, .ref (b 0)), (1, .int v1_72)] → W p l e ({ frames := 2, cells := 0, slots := 0, locals := 52 } : Room) s m ([.ref (b 0)] : List Value).toArray below meth c H locs 0 0 (gQv below G (MW G.2 b n) 27 b F ([.ref (b 0)] : List Value).toArray s) (F0 m 72 ls []) := by
      intro S72 v1_72 hj72 h H locs ls hP hS hl
      rewrite [f_X4_returns_b72] at h
      refine lv_aload_n hx hb dX4_returns_72 rfl (lv_at hl 0 rfl) ?_
      refine mg hx hb hw4 hown hK hP 10 (by decide) (v := .ref (b 3)) rfl (hts (.fieldLink RX4 30 "BackupPowerModel" "states" "[I") (by decide +kernel)) dX4_returns_73 ?_
      refine lv_iload_n hx hb dX4_returns_76 rfl (lv_at hl 1 rfl) ?_
      refine lv_iconst (v := 1) hx hb dX4_returns_77 (by decide) ?_
      refine mstI hx hb hK ha hP hS 3 (by decide) hj72 dX4_returns_78 (fun H locs hP hS => ?_)
      refine lv_aload_n hx hb dX4_returns_79 rfl (lv_at hl 0 rfl) ?_
      refine lv_aload_n hx hb dX4_returns_80 rfl (lv_at hl 0 rfl) ?_
      refine mg hx hb hw4 hown hK hP 1 (by decide) (v := .int ((muA S72 3 v1_72.toNatClampNeg 1).1 1)) rfl (hts (.fieldLink RX4 133 "BackupPowerModel" "now" "I") (by decide +kernel)) dX4_returns_81 ?_
      refine mp hx hb hw4 hown hK ha hP hS 6 (by decide) rfl rfl okI (hts (.fieldLink RX4 20 "BackupPowerModel" "lastReturn" "I") (by decide +kernel)) dX4_returns_84 (fun H locs hP hS => ?_)
      exact J87 (muS (muA S72 3 v1_72.toNatClampNeg 1) 6 ((muA S72 3 v1_72.toNatClampNeg 1).1 1)) h _ _ _ hP hS (lv_sub hl [] rfl)
    rewrite [f_X4_returns_b37] at h
    refine lv_istore_n (lv' := [(2, .int s0_37), (0, .ref (b 0)), (1, .int v1_37)]) hx hb dX4_returns_37 rfl hl (by decide) rfl (fun ls hl => ?_)
    refine lv_iload_n hx hb dX4_returns_38 rfl (lv_at hl 2 rfl) ?_
    refine lv_iconst (v := (-1)) hx hb dX4_returns_39 (by decide) ?_
    refine lv_icmp_eq (tgt := 87) hx hb dX4_returns_40 (by decide) (fun c40 => ?_) (fun c40 => ?_)
    · rewrite [if_pos c40] at h
      exact J87 S37 h _ _ _ hP hS (lv_sub hl [] rfl)
    · rewrite [if_neg c40] at h
      refine lv_iload_n hx hb dX4_returns_43 rfl (lv_at hl 0 rfl) ?_
      refine lv_if_eq (tgt := 87) hx hb dX4_returns_44 (by decide) (fun c44 => ?_) (fun c44 => ?_)
      · rewrite [if_pos c44] at h
        exact J87 S37 h _ _ _ hP hS (lv_sub hl [] rfl)
      · rewrite [if_neg c44] at h
        refine lv_aload_n hx hb dX4_returns_47 rfl (lv_at hl 1 rfl) ?_
        refine mg hx hb hw4 hown hK hP 2 (by decide) (v := .int (S37.1 2)) rfl (hts (.fieldLink RX4 7 "BackupPowerModel" "areUp" "Z") (by decide +kernel)) dX4_returns_48 ?_
        refine lv_if_ne (tgt := 72) hx hb dX4_returns_51 (by decide) (fun c51 => ?_) (fun c51 => ?_)
        · rewrite [if_neg c51] at h
          exact J72 S37 v1_37 (hj37 c40) h _ _ _ hP hS (lv_sub hl [1, 2] rfl)
        · rewrite [if_pos c51] at h
          refine lv_aload_n hx hb dX4_returns_54 rfl (lv_at hl 1 rfl) ?_
          refine gcVi (wf := MW G.2 b n) (N := 27) (ad := b) (As := []) (rest := []) (S := S37) ⟨hx, hb, hml, hown, hts⟩ hK hP hS (c_X4_needed l G b ha n hn S37 _) (cwV 0 hts gX4_returns_X4_needed rfl rfl rfl (by decide +kernel) ⟨Nat.le_of_ble_eq_true rfl, Nat.le_of_ble_eq_true rfl⟩) (mrO hK hP) rfl hl.1 rfl (Nat.le_of_ble_eq_true rfl) dX4_returns_55 ⟨Nat.le_of_ble_eq_true rfl, Nat.le_of_ble_eq_true rfl⟩ (fun p55 H locs ep55 hP hS => ?_)
          rewrite [← ep55] at h
          rewrite [f_X4_returns_c55] at h
          refine lv_aload_n hx hb dX4_returns_58 rfl (lv_at hl 1 rfl) ?_
          refine mg hx hb hw4 hown hK hP 9 (by decide) (v := .ref (b 2)) rfl (hts (.fieldLink RX4 27 "BackupPowerModel" "powers" "[I") (by decide +kernel)) dX4_returns_59 ?_
          refine lv_iload_n hx hb dX4_returns_62 rfl (lv_at hl 2 rfl) ?_
          refine mldI hx hb hK hP 2 (by decide) (hj37 c40) dX4_returns_63 ?_
          refine lv_iadd hx hb dX4_returns_64 ?_
          refine lv_aload_n hx hb dX4_returns_65 rfl (lv_at hl 1 rfl) ?_
          refine gcVi (wf := MW G.2 b n) (N := 27) (ad := b) (As := []) (rest := [.int (p55.1 + (p55.2.2 2 v1_37.toNatClampNeg))]) (S := p55.2) ⟨hx, hb, hml, hown, hts⟩ hK hP hS (c_X4_fromGeneratorsNow l G b ha n hn p55.2 _) (cwV 0 hts gX4_returns_X4_fromGeneratorsNow rfl rfl rfl (by decide +kernel) ⟨Nat.le_of_ble_eq_true rfl, Nat.le_of_ble_eq_true rfl⟩) (mrO hK hP) rfl hl.1 rfl (Nat.le_of_ble_eq_true rfl) dX4_returns_66 ⟨Nat.le_of_ble_eq_true rfl, Nat.le_of_ble_eq_true rfl⟩ (fun p66 H locs ep66 hP hS => ?_)
          rewrite [← ep66] at h
          rewrite [f_X4_returns_c66] at h
          refine lv_icmp_gt (tgt := 87) hx hb dX4_returns_69 (by decide) (fun c69 => ?_) (fun c69 => ?_)
          · rewrite [if_pos c69] at h
            exact J87 p66.2 h _ _ _ hP hS (lv_sub hl [] rfl)
          · rewrite [if_neg c69] at h
            exact J72 p66.2 v1_37 (hj37 c40) h _ _ _ hP hS (lv_sub hl [1, 2] rfl)
  have J32 : ∀ (S32 : MS) (v1_32 : Int32), (¬ v1_32 = -1 → vp_in v1_32 10) → f_X4_returns_b32 n S32 v1_32 = F → ∀ (H : Heap) (locs : List Loc) (ls : Array Slot), wM G b n S32 H → va_S (wA 27 b s.heap.size) s.heap H locs → lv_has ls 3 [(0, .ref (b 0)), (1, .int v1_32)] → W p l e ({ frames := 2, cells := 0, slots := 0, locals := 52 } : Room) s m ([.ref (b 0)] : List Value).toArray below meth c H locs 0 0 (gQv below G (MW G.2 b n) 27 b F ([.ref (b 0)] : List Value).toArray s) (F0 m 32 ls []) := by
    intro S32 v1_32 hj32 h H locs ls hP hS hl
    rewrite [f_X4_returns_b32] at h
    refine lv_iconst (v := 1) hx hb dX4_returns_32 (by decide) ?_
    refine lv_goto (tgt := 37) hx hb dX4_returns_33 (by decide) ?_
    exact J37 S32 v1_32 1 isB_1 (by first | exact hj32 | exact inOrder_in hn ep4) h _ _ _ hP hS (lv_sub hl [0, 1] rfl)
  rewrite [f_X4_returns] at h
  refine lv_aload_n hx hb dX4_returns_0 rfl (lv_at hl 0 rfl) ?_
  refine lv_iconst (v := 2) hx hb dX4_returns_1 (by decide) ?_
  refine lv_iconst (v := 0) hx hb dX4_returns_2 (by decide) ?_
  refine lv_iconst (v := 1) hx hb dX4_returns_3 (by decide) ?_
  refine gcVi (wf := MW G.2 b n) (N := 27) (ad := b) (As := [.int 2, .int 0, .int 1]) (rest := []) (S := S) ⟨hx, hb, hml, hown, hts⟩ hK hP hS (c_X4_inOrder l G b ha n hn 2 0 1 S _) (cwV 3 hts gX4_returns_X4_inOrder rfl rfl rfl (by decide +kernel) ⟨Nat.le_of_ble_eq_true rfl, Nat.le_of_ble_eq_true rfl⟩) (mrO hK hP) rfl hl.1 rfl (Nat.le_of_ble_eq_true rfl) dX4_returns_4 ⟨Nat.le_of_ble_eq_true rfl, Nat.le_of_ble_eq_true rfl⟩ (fun p4 H locs ep4 hP hS => ?_)
  rewrite [← ep4] at h
  rewrite [f_X4_returns_c4] at h
  refine lv_istore_n (lv' := [(1, .int p4.1), (0, .ref (b 0))]) hx hb dX4_returns_7 rfl hl (by decide) rfl (fun ls hl => ?_)
  refine lv_aload_n hx hb dX4_returns_8 rfl (lv_at hl 1 rfl) ?_
  refine mg hx hb hw4 hown hK hP 6 (by decide) (v := .int (p4.2.1 6)) rfl (hts (.fieldLink RX4 20 "BackupPowerModel" "lastReturn" "I") (by decide +kernel)) dX4_returns_9 ?_
  refine lv_iconst (v := (-1)) hx hb dX4_returns_12 (by decide) ?_
  refine lv_icmp_eq (tgt := 32) hx hb dX4_returns_13 (by decide) (fun c13 => ?_) (fun c13 => ?_)
  · rewrite [if_pos c13] at h
    exact J32 p4.2 p4.1 (inOrder_in hn ep4) h _ _ _ hP hS (lv_sub hl [1, 0] rfl)
  · rewrite [if_neg c13] at h
    refine lv_aload_n hx hb dX4_returns_16 rfl (lv_at hl 1 rfl) ?_
    refine mg hx hb hw4 hown hK hP 1 (by decide) (v := .int (p4.2.1 1)) rfl (hts (.fieldLink RX4 133 "BackupPowerModel" "now" "I") (by decide +kernel)) dX4_returns_17 ?_
    refine lv_aload_n hx hb dX4_returns_20 rfl (lv_at hl 1 rfl) ?_
    refine mg hx hb hw4 hown hK hP 6 (by decide) (v := .int (p4.2.1 6)) rfl (hts (.fieldLink RX4 20 "BackupPowerModel" "lastReturn" "I") (by decide +kernel)) dX4_returns_21 ?_
    refine lv_isub hx hb dX4_returns_24 ?_
    refine lv_aload_n hx hb dX4_returns_25 rfl (lv_at hl 1 rfl) ?_
    refine mg hx hb hw4 hown hK hP 5 (by decide) (v := .int (p4.2.1 5)) rfl (hts (.fieldLink RX4 17 "BackupPowerModel" "stagger" "I") (by decide +kernel)) dX4_returns_26 ?_
    refine lv_icmp_lt (tgt := 36) hx hb dX4_returns_29 (by decide) (fun c29 => ?_) (fun c29 => ?_)
    · rewrite [if_pos c29] at h
      refine lv_iconst (v := 0) hx hb dX4_returns_36 (by decide) ?_
      exact J37 p4.2 p4.1 0 isB_0 (by first | exact hj32 | exact inOrder_in hn ep4) h _ _ _ hP hS (lv_sub hl [1, 0] rfl)
    · rewrite [if_neg c29] at h
      exact J32 p4.2 p4.1 (inOrder_in hn ep4) h _ _ _ hP hS (lv_sub hl [1, 0] rfl)

def f_X4_minute_b116 (n : Nat × Nat × Nat) (K61 : Nat → MS → Int32 × MS) (k61 : Nat) (S116 : MS) : Int32 × MS := (K61 (k61 + 1) S116)
def f_X4_minute_c144 (n : Nat × Nat × Nat) (v1_135 : Int32) (p144 : MS) : Int32 × MS := (v1_135, p144)
def f_X4_minute_c140 (n : Nat × Nat × Nat) (v1_135 : Int32) (p140 : MS) : Int32 × MS := (f_X4_minute_c144 n v1_135 (f_X4_wears n p140))
def f_X4_minute_c136 (n : Nat × Nat × Nat) (v1_135 : Int32) (p136 : MS) : Int32 × MS := (f_X4_minute_c140 n v1_135 (f_X4_charges n p136))
def f_X4_minute_b135 (n : Nat × Nat × Nat) (S135 : MS) (v1_135 : Int32) : Int32 × MS := (f_X4_minute_c136 n v1_135 (f_X4_serves n S135))
def f_X4_minute_c132 (n : Nat × Nat × Nat) (p123 : Int32 × MS) (p132 : MS) : Int32 × MS := (f_X4_minute_b135 n p132 p123.1)
def f_X4_minute_c123 (n : Nat × Nat × Nat) (p123 : Int32 × MS) : Int32 × MS := (if p123.1 = 0 then (f_X4_minute_c132 n p123 (f_X4_returns n p123.2)) else (f_X4_minute_b135 n p123.2 p123.1))
def f_X4_minute_c113 (n : Nat × Nat × Nat) (K61 : Nat → MS → Int32 × MS) (k61 : Nat) (p113 : MS) : Int32 × MS := (f_X4_minute_b116 n K61 k61 p113)
def f_X4_minute_c105 (n : Nat × Nat × Nat) (K61 : Nat → MS → Int32 × MS) (k61 : Nat) (p105 : MS) : Int32 × MS := (f_X4_minute_b116 n K61 k61 p105)
def f_X4_minute_c87 (n : Nat × Nat × Nat) (K61 : Nat → MS → Int32 × MS) (k61 : Nat) (p87 : MS) : Int32 × MS := (f_X4_minute_b116 n K61 k61 p87)
def f_X4_minute_h61 (n : Nat × Nat × Nat) : Nat → Nat → MS → Int32 × MS
  | 0, _, S61 => (0, S61)
  | q + 1, k61, S61 => (if n.2.2 ≤ k61 then (f_X4_minute_c123 n (f_X4_sheds n S61)) else (if ((muA S61 20 k61 0).2 16 k61) = 0 then (f_X4_minute_c87 n (f_X4_minute_h61 n q) k61 (f_X4_beginsToStart n k61 (muA S61 20 k61 0))) else (if ((muA S61 20 k61 0).2 16 k61) = 1 then (f_X4_minute_c105 n (f_X4_minute_h61 n q) k61 (f_X4_goesOnStarting n k61 (muA S61 20 k61 0))) else (f_X4_minute_c113 n (f_X4_minute_h61 n q) k61 (f_X4_goesOnRunning n k61 (muA S61 20 k61 0))))))
def f_X4_minute_h33 (n : Nat × Nat × Nat) : Nat → Nat → MS → Int32 × MS
  | 0, _, S33 => (0, S33)
  | q + 1, k33, S33 => (if n.2.1 ≤ k33 then (f_X4_minute_h61 n (n.2.2 + 1) 0 S33) else ((f_X4_minute_h33 n q) (k33 + 1) (muA S33 10 k33 (S33.2 7 k33))))
def f_X4_minute_b28 (n : Nat × Nat × Nat) (S28 : MS) (s1_28 : Int32) : Int32 × MS := (f_X4_minute_h33 n (n.2.1 + 1) 0 (muS S28 3 s1_28))
def f_X4_minute (n : Nat × Nat × Nat) (S : MS) : Int32 × MS := (if ((muS S 1 ((S.1 1) + 1)).1 2) = 0 then (f_X4_minute_b28 n (muS S 1 ((S.1 1) + 1)) (((muS S 1 ((S.1 1) + 1)).1 3) + 1)) else (f_X4_minute_b28 n (muS S 1 ((S.1 1) + 1)) 0))
set_option maxHeartbeats 4000000 in
set_option maxRecDepth 100000 in
theorem c_X4_minute (l : Launch) (G : WG) (b : Nat → Nat) (ha : wInj 27 b) (n : Nat × Nat × Nat) (hn : n.1 ≤ 10 ∧ n.2.1 ≤ 3 ∧ n.2.2 ≤ 3) (S : MS) (hI : MInv n S) (sz : Nat) : gMi l yX4_minute wsX4_minute ({ frames := 3, cells := 0, slots := 0, locals := 74 }) G 27 b (MW G.2 b n) [.ref (b 0)] S sz (f_X4_minute n S) := by
  unfold gMi
  refine Met.ofW (cc := cX4_minute) (maxL := 2) (ret := (some .int)) (by decide) rfl ?_
  intro p e s m args below meth c s₁ B hml hv
  obtain ⟨rfl, rfl, hP, hK⟩ := hv
  have hx := B.exec
  have hb := B.bytes
  have hr := B.returns
  have hts := atoms_spec (ws := wsX4_minute) B.pre
  have hown : s.vm.findClass RX4 = some m.cls := findClass_of_methodNamed B.named
  have hlocks := B.notSynchronized
  have hS : va_S (wA 27 b s.heap.size) s.heap s.heap [] := va_S.rf
  have hw4 : ∀ w ∈ wsX40, w.before ([.ref (b 0)] : List Value).toArray s = true := fun w hw => hts w ((by decide +kernel : ∀ w ∈ wsX40, w ∈ wsX4_minute) w hw)
  have hl := lv_entry ([.ref (b 0)]) (n := 2) (Nat.le_of_ble_eq_true rfl)
  rw [lg_entry_eq]
  generalize (lg_sl ([.ref (b 0)] : List Value) ++ List.replicate (2 - (lg_sl ([.ref (b 0)] : List Value)).length) Slot.unset).toArray = ls at hl ⊢
  have hl : lv_has ls 2 [(0, .ref (b 0))] := hl
  generalize hF : f_X4_minute n S = F
  have h : f_X4_minute n S = F := hF
  clear hF
  show W p l e ({ frames := 3, cells := 0, slots := 0, locals := 74 } : Room) s m ([.ref (b 0)] : List Value).toArray below meth c s.heap [] 0 0 (gQi below G (MW G.2 b n) 27 b F ([.ref (b 0)] : List Value).toArray s) (F0 m 0 ls [])
  have J28 : ∀ (S28 : MS) (s1_28 : Int32), (MInv n S28) → f_X4_minute_b28 n S28 s1_28 = F → ∀ (H : Heap) (locs : List Loc) (ls : Array Slot), wM G b n S28 H → va_S (wA 27 b s.heap.size) s.heap H locs → lv_has ls 2 [(0, .ref (b 0))] → W p l e ({ frames := 3, cells := 0, slots := 0, locals := 74 } : Room) s m ([.ref (b 0)] : List Value).toArray below meth c H locs 0 0 (gQi below G (MW G.2 b n) 27 b F ([.ref (b 0)] : List Value).toArray s) (F0 m 28 ls [.int s1_28, .ref (b 0)]) := by
    intro S28 s1_28 hM28 h H locs ls hP hS hl
    have L33 : ∀ (q33 : Nat) (k33 : Nat) (S33 : MS), (MInv n S33) → k33 ≤ n.2.1 → n.2.1 < k33 + q33 → f_X4_minute_h33 n q33 k33 S33 = F → ∀ (H : Heap) (locs : List Loc) (ls : Array Slot), wM G b n S33 H → va_S (wA 27 b s.heap.size) s.heap H locs → lv_has ls 2 [(0, .ref (b 0)), (1, .int (nI k33))] → W p l e ({ frames := 3, cells := 0, slots := 0, locals := 74 } : Room) s m ([.ref (b 0)] : List Value).toArray below meth c H locs 0 0 (gQi below G (MW G.2 b n) 27 b F ([.ref (b 0)] : List Value).toArray s) (F0 m 33 ls []) := by
      intro q33
      induction q33 with
      | zero => intro k33 S33 hM33 hk33 hq33 h H locs ls hP hS hl; omega
      | succ q33 ih33 =>
        intro k33 S33 hM33 hk33 hq33 h H locs ls hP hS hl
        have L61 : ∀ (q61 : Nat) (k61 : Nat) (S61 : MS), (MInv n S61) → k61 ≤ n.2.2 → n.2.2 < k61 + q61 → f_X4_minute_h61 n q61 k61 S61 = F → ∀ (H : Heap) (locs : List Loc) (ls : Array Slot), wM G b n S61 H → va_S (wA 27 b s.heap.size) s.heap H locs → lv_has ls 2 [(0, .ref (b 0)), (1, .int (nI k61))] → W p l e ({ frames := 3, cells := 0, slots := 0, locals := 74 } : Room) s m ([.ref (b 0)] : List Value).toArray below meth c H locs 0 0 (gQi below G (MW G.2 b n) 27 b F ([.ref (b 0)] : List Value).toArray s) (F0 m 61 ls []) := by
          intro q61
          induction q61 with
          | zero => intro k61 S61 hM61 hk61 hq61 h H locs ls hP hS hl; omega
          | succ q61 ih61 =>
            intro k61 S61 hM61 hk61 hq61 h H locs ls hP hS hl
            have J116 : ∀ (S116 : MS), (MInv n S116) → (k61 < n.2.2) → f_X4_minute_b116 n (f_X4_minute_h61 n q61) k61 S116 = F → ∀ (H : Heap) (locs : List Loc) (ls : Array Slot), wM G b n S116 H → va_S (wA 27 b s.heap.size) s.heap H locs → lv_has ls 2 [(0, .ref (b 0)), (1, .int (nI k61))] → W p l e ({ frames := 3, cells := 0, slots := 0, locals := 74 } : Room) s m ([.ref (b 0)] : List Value).toArray below meth c H locs 0 0 (gQi below G (MW G.2 b n) 27 b F ([.ref (b 0)] : List Value).toArray s) (F0 m 116 ls []) := by
              intro S116 hM116 hkb61 h H locs ls hP hS hl
              rewrite [f_X4_minute_b116] at h
              refine lv_iinc (k := 1) (v := nI (k61 + 1)) (lv' := [(1, .int (nI (k61 + 1))), (0, .ref (b 0))]) hx hb dX4_minute_116 hl rfl (nI_inc _) (by decide) rfl (fun ls hl => ?_)
              refine lv_goto (tgt := 61) hx hb dX4_minute_119 (by decide) ?_
              exact ih61 (k61 + 1) S116 (by first | exact hM33 | exact hM116) (by omega) (by omega) h _ _ _ hP hS (lv_sub hl [1, 0] rfl)
            have J135 : ∀ (S135 : MS) (v1_135 : Int32), f_X4_minute_b135 n S135 v1_135 = F → ∀ (H : Heap) (locs : List Loc) (ls : Array Slot), wM G b n S135 H → va_S (wA 27 b s.heap.size) s.heap H locs → lv_has ls 2 [(0, .ref (b 0)), (1, .int v1_135)] → W p l e ({ frames := 3, cells := 0, slots := 0, locals := 74 } : Room) s m ([.ref (b 0)] : List Value).toArray below meth c H locs 0 0 (gQi below G (MW G.2 b n) 27 b F ([.ref (b 0)] : List Value).toArray s) (F0 m 135 ls []) := by
              intro S135 v1_135 h H locs ls hP hS hl
              rewrite [f_X4_minute_b135] at h
              refine lv_aload_n hx hb dX4_minute_135 rfl (lv_at hl 0 rfl) ?_
              refine gcVv (wf := MW G.2 b n) (N := 27) (ad := b) (As := []) (rest := []) (S := S135) ⟨hx, hb, hml, hown, hts⟩ hK hP hS (c_X4_serves l G b ha n hn S135 _) (cwV 0 hts gX4_minute_X4_serves rfl rfl rfl (by decide +kernel) ⟨Nat.le_of_ble_eq_true rfl, Nat.le_of_ble_eq_true rfl⟩) (mrO hK hP) rfl hl.1 rfl (Nat.le_of_ble_eq_true rfl) dX4_minute_136 ⟨Nat.le_of_ble_eq_true rfl, Nat.le_of_ble_eq_true rfl⟩ (fun p136 H locs ep136 hP hS => ?_)
              rewrite [← ep136] at h
              rewrite [f_X4_minute_c136] at h
              refine lv_aload_n hx hb dX4_minute_139 rfl (lv_at hl 0 rfl) ?_
              refine gcVv (wf := MW G.2 b n) (N := 27) (ad := b) (As := []) (rest := []) (S := p136) ⟨hx, hb, hml, hown, hts⟩ hK hP hS (c_X4_charges l G b ha n hn p136 _) (cwV 0 hts gX4_minute_X4_charges rfl rfl rfl (by decide +kernel) ⟨Nat.le_of_ble_eq_true rfl, Nat.le_of_ble_eq_true rfl⟩) (mrO hK hP) rfl hl.1 rfl (Nat.le_of_ble_eq_true rfl) dX4_minute_140 ⟨Nat.le_of_ble_eq_true rfl, Nat.le_of_ble_eq_true rfl⟩ (fun p140 H locs ep140 hP hS => ?_)
              rewrite [← ep140] at h
              rewrite [f_X4_minute_c140] at h
              refine lv_aload_n hx hb dX4_minute_143 rfl (lv_at hl 0 rfl) ?_
              refine gcVv (wf := MW G.2 b n) (N := 27) (ad := b) (As := []) (rest := []) (S := p140) ⟨hx, hb, hml, hown, hts⟩ hK hP hS (c_X4_wears l G b ha n hn p140 _) (cwV 0 hts gX4_minute_X4_wears rfl rfl rfl (by decide +kernel) ⟨Nat.le_of_ble_eq_true rfl, Nat.le_of_ble_eq_true rfl⟩) (mrO hK hP) rfl hl.1 rfl (Nat.le_of_ble_eq_true rfl) dX4_minute_144 ⟨Nat.le_of_ble_eq_true rfl, Nat.le_of_ble_eq_true rfl⟩ (fun p144 H locs ep144 hP hS => ?_)
              rewrite [← ep144] at h
              rewrite [f_X4_minute_c144] at h
              refine lv_iload_n hx hb dX4_minute_147 rfl (lv_at hl 1 rfl) ?_
              exact gRi (wf := MW G.2 b n) (S := p144) hx hb hr hlocks hP hS h dX4_minute_148
            rewrite [f_X4_minute_h61] at h
            refine lv_iload_n hx hb dX4_minute_61 rfl (lv_at hl 1 rfl) ?_
            refine lv_aload_n hx hb dX4_minute_62 rfl (lv_at hl 0 rfl) ?_
            refine mg hx hb hw4 hown hK hP 20 (by decide) (v := .int (nI n.2.2)) rfl (hts (.fieldLink RX4 113 "BackupPowerModel" "generatorMany" "I") (by decide +kernel)) dX4_minute_63 ?_
            refine lv_icmp_ge (tgt := 122) hx hb dX4_minute_66 (by decide) (fun c66 => ?_) (fun c66 => ?_)
            · have c66 : n.2.2 ≤ k61 := (nI_leI (a := n.2.2) (b := k61) (by omega) (by omega)).mp c66
              rewrite [if_pos c66] at h
              refine lv_aload_n hx hb dX4_minute_122 rfl (lv_at hl 0 rfl) ?_
              refine gcVi (wf := MW G.2 b n) (N := 27) (ad := b) (As := []) (rest := []) (S := S61) ⟨hx, hb, hml, hown, hts⟩ hK hP hS (c_X4_sheds l G b ha n hn S61 (shOk_of hn hM61) _) (cwV 0 hts gX4_minute_X4_sheds rfl rfl rfl (by decide +kernel) ⟨Nat.le_of_ble_eq_true rfl, Nat.le_of_ble_eq_true rfl⟩) (mrO hK hP) rfl hl.1 rfl (Nat.le_of_ble_eq_true rfl) dX4_minute_123 ⟨Nat.le_of_ble_eq_true rfl, Nat.le_of_ble_eq_true rfl⟩ (fun p123 H locs ep123 hP hS => ?_)
              rewrite [← ep123] at h
              rewrite [f_X4_minute_c123] at h
              refine lv_istore_n (lv' := [(1, .int p123.1), (0, .ref (b 0))]) hx hb dX4_minute_126 rfl hl (by decide) rfl (fun ls hl => ?_)
              refine lv_iload_n hx hb dX4_minute_127 rfl (lv_at hl 0 rfl) ?_
              refine lv_if_ne (tgt := 135) hx hb dX4_minute_128 (by decide) (fun c128 => ?_) (fun c128 => ?_)
              · rewrite [if_neg c128] at h
                exact J135 p123.2 p123.1 h _ _ _ hP hS (lv_sub hl [1, 0] rfl)
              · rewrite [if_pos c128] at h
                refine lv_aload_n hx hb dX4_minute_131 rfl (lv_at hl 1 rfl) ?_
                refine gcVv (wf := MW G.2 b n) (N := 27) (ad := b) (As := []) (rest := []) (S := p123.2) ⟨hx, hb, hml, hown, hts⟩ hK hP hS (c_X4_returns l G b ha n hn p123.2 _) (cwV 0 hts gX4_minute_X4_returns rfl rfl rfl (by decide +kernel) ⟨Nat.le_of_ble_eq_true rfl, Nat.le_of_ble_eq_true rfl⟩) (mrO hK hP) rfl hl.1 rfl (Nat.le_of_ble_eq_true rfl) dX4_minute_132 ⟨Nat.le_of_ble_eq_true rfl, Nat.le_of_ble_eq_true rfl⟩ (fun p132 H locs ep132 hP hS => ?_)
                rewrite [← ep132] at h
                rewrite [f_X4_minute_c132] at h
                exact J135 p132 p123.1 h _ _ _ hP hS (lv_sub hl [1, 0] rfl)
            · have c66 : ¬ n.2.2 ≤ k61 := fun z => c66 ((nI_leI (a := n.2.2) (b := k61) (by omega) (by omega)).mpr z)
              rewrite [if_neg c66] at h
              refine lv_aload_n hx hb dX4_minute_69 rfl (lv_at hl 0 rfl) ?_
              refine mg hx hb hw4 hown hK hP 29 (by decide) (v := .ref (b 20)) rfl (hts (.fieldLink RX4 82 "BackupPowerModel" "given" "[I") (by decide +kernel)) dX4_minute_70 ?_
              refine lv_iload_n hx hb dX4_minute_73 rfl (lv_at hl 1 rfl) ?_
              refine lv_iconst (v := 0) hx hb dX4_minute_74 (by decide) ?_
              refine mst hx hb hK ha hP hS 20 (by decide) (show k61 < 3 by omega) dX4_minute_75 (fun H locs hP hS => ?_)
              refine lv_aload_n hx hb dX4_minute_76 rfl (lv_at hl 0 rfl) ?_
              refine mg hx hb hw4 hown hK hP 25 (by decide) (v := .ref (b 16)) rfl (hts (.fieldLink RX4 69 "BackupPowerModel" "modes" "[I") (by decide +kernel)) dX4_minute_77 ?_
              refine lv_iload_n hx hb dX4_minute_80 rfl (lv_at hl 1 rfl) ?_
              refine mld hx hb hK hP 16 (by decide) (show k61 < 3 by omega) dX4_minute_81 ?_
              refine lv_if_ne (tgt := 93) hx hb dX4_minute_82 (by decide) (fun c82 => ?_) (fun c82 => ?_)
              · rewrite [if_neg c82] at h
                refine lv_aload_n hx hb dX4_minute_93 rfl (lv_at hl 0 rfl) ?_
                refine mg hx hb hw4 hown hK hP 25 (by decide) (v := .ref (b 16)) rfl (hts (.fieldLink RX4 69 "BackupPowerModel" "modes" "[I") (by decide +kernel)) dX4_minute_94 ?_
                refine lv_iload_n hx hb dX4_minute_97 rfl (lv_at hl 1 rfl) ?_
                refine mld hx hb hK hP 16 (by decide) (show k61 < 3 by omega) dX4_minute_98 ?_
                refine lv_iconst (v := 1) hx hb dX4_minute_99 (by decide) ?_
                refine lv_icmp_ne (tgt := 111) hx hb dX4_minute_100 (by decide) (fun c100 => ?_) (fun c100 => ?_)
                · rewrite [if_neg c100] at h
                  refine lv_aload_n hx hb dX4_minute_111 rfl (lv_at hl 0 rfl) ?_
                  refine lv_iload_n hx hb dX4_minute_112 rfl (lv_at hl 1 rfl) ?_
                  refine gcVv (wf := MW G.2 b n) (N := 27) (ad := b) (As := [.int (nI k61)]) (rest := []) (S := muA S61 20 k61 0) ⟨hx, hb, hml, hown, hts⟩ hK hP hS (c_X4_goesOnRunning l G b ha n hn k61 (by omega) (muA S61 20 k61 0) _) (cwV 1 hts gX4_minute_X4_goesOnRunning rfl rfl rfl (by decide +kernel) ⟨Nat.le_of_ble_eq_true rfl, Nat.le_of_ble_eq_true rfl⟩) (mrO hK hP) rfl hl.1 rfl (Nat.le_of_ble_eq_true rfl) dX4_minute_113 ⟨Nat.le_of_ble_eq_true rfl, Nat.le_of_ble_eq_true rfl⟩ (fun p113 H locs ep113 hP hS => ?_)
                  rewrite [← ep113] at h
                  rewrite [f_X4_minute_c113] at h
                  exact J116 p113 (by first | exact minv_bts (minv_A (by decide) hM61) ep87 | exact minv_gos (minv_A (by decide) hM61) ep105 | exact minv_gor (minv_A (by decide) hM61) ep113) (by omega) h _ _ _ hP hS (lv_sub hl [0, 1] rfl)
                · rewrite [if_pos c100] at h
                  refine lv_aload_n hx hb dX4_minute_103 rfl (lv_at hl 0 rfl) ?_
                  refine lv_iload_n hx hb dX4_minute_104 rfl (lv_at hl 1 rfl) ?_
                  refine gcVv (wf := MW G.2 b n) (N := 27) (ad := b) (As := [.int (nI k61)]) (rest := []) (S := muA S61 20 k61 0) ⟨hx, hb, hml, hown, hts⟩ hK hP hS (c_X4_goesOnStarting l G b ha n hn k61 (by omega) (muA S61 20 k61 0) _) (cwV 1 hts gX4_minute_X4_goesOnStarting rfl rfl rfl (by decide +kernel) ⟨Nat.le_of_ble_eq_true rfl, Nat.le_of_ble_eq_true rfl⟩) (mrO hK hP) rfl hl.1 rfl (Nat.le_of_ble_eq_true rfl) dX4_minute_105 ⟨Nat.le_of_ble_eq_true rfl, Nat.le_of_ble_eq_true rfl⟩ (fun p105 H locs ep105 hP hS => ?_)
                  rewrite [← ep105] at h
                  rewrite [f_X4_minute_c105] at h
                  refine lv_goto (tgt := 116) hx hb dX4_minute_108 (by decide) ?_
                  exact J116 p105 (by first | exact minv_bts (minv_A (by decide) hM61) ep87 | exact minv_gos (minv_A (by decide) hM61) ep105 | exact minv_gor (minv_A (by decide) hM61) ep113) (by omega) h _ _ _ hP hS (lv_sub hl [0, 1] rfl)
              · rewrite [if_pos c82] at h
                refine lv_aload_n hx hb dX4_minute_85 rfl (lv_at hl 0 rfl) ?_
                refine lv_iload_n hx hb dX4_minute_86 rfl (lv_at hl 1 rfl) ?_
                refine gcVv (wf := MW G.2 b n) (N := 27) (ad := b) (As := [.int (nI k61)]) (rest := []) (S := muA S61 20 k61 0) ⟨hx, hb, hml, hown, hts⟩ hK hP hS (c_X4_beginsToStart l G b ha n hn k61 (by omega) (muA S61 20 k61 0) _) (cwV 1 hts gX4_minute_X4_beginsToStart rfl rfl rfl (by decide +kernel) ⟨Nat.le_of_ble_eq_true rfl, Nat.le_of_ble_eq_true rfl⟩) (mrO hK hP) rfl hl.1 rfl (Nat.le_of_ble_eq_true rfl) dX4_minute_87 ⟨Nat.le_of_ble_eq_true rfl, Nat.le_of_ble_eq_true rfl⟩ (fun p87 H locs ep87 hP hS => ?_)
                rewrite [← ep87] at h
                rewrite [f_X4_minute_c87] at h
                refine lv_goto (tgt := 116) hx hb dX4_minute_90 (by decide) ?_
                exact J116 p87 (by first | exact minv_bts (minv_A (by decide) hM61) ep87 | exact minv_gos (minv_A (by decide) hM61) ep105 | exact minv_gor (minv_A (by decide) hM61) ep113) (by omega) h _ _ _ hP hS (lv_sub hl [0, 1] rfl)
        rewrite [f_X4_minute_h33] at h
        refine lv_iload_n hx hb dX4_minute_33 rfl (lv_at hl 1 rfl) ?_
        refine lv_aload_n hx hb dX4_minute_34 rfl (lv_at hl 0 rfl) ?_
        refine mg hx hb hw4 hown hK hP 13 (by decide) (v := .int (nI n.2.1)) rfl (hts (.fieldLink RX4 116 "BackupPowerModel" "batteryMany" "I") (by decide +kernel)) dX4_minute_35 ?_
        refine lv_icmp_ge (tgt := 59) hx hb dX4_minute_38 (by decide) (fun c38 => ?_) (fun c38 => ?_)
        · have c38 : n.2.1 ≤ k33 := (nI_leI (a := n.2.1) (b := k33) (by omega) (by omega)).mp c38
          rewrite [if_pos c38] at h
          refine lv_iconst (v := 0) hx hb dX4_minute_59 (by decide) ?_
          refine lv_istore_n (lv' := [(1, .int 0), (0, .ref (b 0))]) hx hb dX4_minute_60 rfl hl (by decide) rfl (fun ls hl => ?_)
          exact L61 (n.2.2 + 1) 0 S33 (by first | exact hM33 | exact hM116) (by omega) (by omega) h _ _ _ hP hS (lv_sub hl [1, 0] rfl)
        · have c38 : ¬ n.2.1 ≤ k33 := fun z => c38 ((nI_leI (a := n.2.1) (b := k33) (by omega) (by omega)).mpr z)
          rewrite [if_neg c38] at h
          refine lv_aload_n hx hb dX4_minute_41 rfl (lv_at hl 0 rfl) ?_
          refine mg hx hb hw4 hown hK hP 18 (by decide) (v := .ref (b 10)) rfl (hts (.fieldLink RX4 51 "BackupPowerModel" "ahead" "[I") (by decide +kernel)) dX4_minute_42 ?_
          refine lv_iload_n hx hb dX4_minute_45 rfl (lv_at hl 1 rfl) ?_
          refine lv_aload_n hx hb dX4_minute_46 rfl (lv_at hl 0 rfl) ?_
          refine mg hx hb hw4 hown hK hP 15 (by decide) (v := .ref (b 7)) rfl (hts (.fieldLink RX4 42 "BackupPowerModel" "charges" "[I") (by decide +kernel)) dX4_minute_47 ?_
          refine lv_iload_n hx hb dX4_minute_50 rfl (lv_at hl 1 rfl) ?_
          refine mld hx hb hK hP 7 (by decide) (show k33 < 3 by omega) dX4_minute_51 ?_
          refine mst hx hb hK ha hP hS 10 (by decide) (show k33 < 3 by omega) dX4_minute_52 (fun H locs hP hS => ?_)
          refine lv_iinc (k := 1) (v := nI (k33 + 1)) (lv' := [(1, .int (nI (k33 + 1))), (0, .ref (b 0))]) hx hb dX4_minute_53 hl rfl (nI_inc _) (by decide) rfl (fun ls hl => ?_)
          refine lv_goto (tgt := 33) hx hb dX4_minute_56 (by decide) ?_
          exact ih33 (k33 + 1) (muA S33 10 k33 (S33.2 7 k33)) (by first | exact minv_S hM28 | exact minv_A (by decide) hM33) (by omega) (by omega) h _ _ _ hP hS (lv_sub hl [1, 0] rfl)
    rewrite [f_X4_minute_b28] at h
    refine mp hx hb hw4 hown hK ha hP hS 3 (by decide) rfl rfl okI (hts (.fieldLink RX4 130 "BackupPowerModel" "away" "I") (by decide +kernel)) dX4_minute_28 (fun H locs hP hS => ?_)
    refine lv_iconst (v := 0) hx hb dX4_minute_31 (by decide) ?_
    refine lv_istore_n (lv' := [(1, .int 0), (0, .ref (b 0))]) hx hb dX4_minute_32 rfl hl (by decide) rfl (fun ls hl => ?_)
    exact L33 (n.2.1 + 1) 0 (muS S28 3 s1_28) (by first | exact minv_S hM28 | exact minv_A (by decide) hM33) (by omega) (by omega) h _ _ _ hP hS (lv_sub hl [1, 0] rfl)
  rewrite [f_X4_minute] at h
  refine lv_aload_n hx hb dX4_minute_0 rfl (lv_at hl 0 rfl) ?_
  refine lv_dup hx hb dX4_minute_1 rfl ?_
  refine mg hx hb hw4 hown hK hP 1 (by decide) (v := .int (S.1 1)) rfl (hts (.fieldLink RX4 133 "BackupPowerModel" "now" "I") (by decide +kernel)) dX4_minute_2 ?_
  refine lv_iconst (v := 1) hx hb dX4_minute_5 (by decide) ?_
  refine lv_iadd hx hb dX4_minute_6 ?_
  refine mp hx hb hw4 hown hK ha hP hS 1 (by decide) rfl rfl okI (hts (.fieldLink RX4 133 "BackupPowerModel" "now" "I") (by decide +kernel)) dX4_minute_7 (fun H locs hP hS => ?_)
  refine lv_aload_n hx hb dX4_minute_10 rfl (lv_at hl 0 rfl) ?_
  refine lv_aload_n hx hb dX4_minute_11 rfl (lv_at hl 0 rfl) ?_
  refine mg hx hb hw4 hown hK hP 2 (by decide) (v := .int ((muS S 1 ((S.1 1) + 1)).1 2)) rfl (hts (.fieldLink RX4 7 "BackupPowerModel" "areUp" "Z") (by decide +kernel)) dX4_minute_12 ?_
  refine lv_if_eq (tgt := 22) hx hb dX4_minute_15 (by decide) (fun c15 => ?_) (fun c15 => ?_)
  · rewrite [if_pos c15] at h
    refine lv_aload_n hx hb dX4_minute_22 rfl (lv_at hl 0 rfl) ?_
    refine mg hx hb hw4 hown hK hP 3 (by decide) (v := .int ((muS S 1 ((S.1 1) + 1)).1 3)) rfl (hts (.fieldLink RX4 130 "BackupPowerModel" "away" "I") (by decide +kernel)) dX4_minute_23 ?_
    refine lv_iconst (v := 1) hx hb dX4_minute_26 (by decide) ?_
    refine lv_iadd hx hb dX4_minute_27 ?_
    exact J28 (muS S 1 ((S.1 1) + 1)) (((muS S 1 ((S.1 1) + 1)).1 3) + 1) (minv_S hI) h _ _ _ hP hS (lv_sub hl [0] rfl)
  · rewrite [if_neg c15] at h
    refine lv_iconst (v := 0) hx hb dX4_minute_18 (by decide) ?_
    refine lv_goto (tgt := 28) hx hb dX4_minute_19 (by decide) ?_
    exact J28 (muS S 1 ((S.1 1) + 1)) 0 (minv_S hI) h _ _ _ hP hS (lv_sub hl [0] rfl)

def f_X4_placed_b44 (n : Nat × Nat × Nat) (x1 : Int32) (x2 : Int32) (x3 : Int32) (S44 : MS) (s0_44 : Int32) : Int32 × MS := (s0_44, S44)
def f_X4_placed_b29 (n : Nat × Nat × Nat) (x1 : Int32) (x2 : Int32) (x3 : Int32) (S29 : MS) (v4_29 : Int32) (s1_29 : Int32) : Int32 × MS := (if v4_29 = (-1) then (f_X4_placed_b44 n x1 x2 x3 (muS S29 0 s1_29) 0) else (f_X4_placed_b44 n x1 x2 x3 (muS S29 0 s1_29) v4_29))
def f_X4_placed_b15 (n : Nat × Nat × Nat) (x1 : Int32) (x2 : Int32) (x3 : Int32) (S15 : MS) (s0_15 : Int32) : Int32 × MS := (if s0_15 = (-1) then (f_X4_placed_b29 n x1 x2 x3 S15 s0_15 1) else (f_X4_placed_b29 n x1 x2 x3 S15 s0_15 0))
def f_X4_placed_c8 (n : Nat × Nat × Nat) (x1 : Int32) (x2 : Int32) (x3 : Int32) (p8 : Int32 × MS) : Int32 × MS := (f_X4_placed_b15 n x1 x2 x3 p8.2 p8.1)
def f_X4_placed (n : Nat × Nat × Nat) (x1 : Int32) (x2 : Int32) (x3 : Int32) (S : MS) : Int32 × MS := (if x2 < 0 then (f_X4_placed_b15 n x1 x2 x3 S (-1)) else (f_X4_placed_c8 n x1 x2 x3 (f_X4_inOrder n x1 x2 x3 S)))
set_option maxHeartbeats 4000000 in
set_option maxRecDepth 100000 in
theorem c_X4_placed (l : Launch) (G : WG) (b : Nat → Nat) (ha : wInj 27 b) (n : Nat × Nat × Nat) (hn : n.1 ≤ 10 ∧ n.2.1 ≤ 3 ∧ n.2.2 ≤ 3) (x1 : Int32) (x2 : Int32) (x3 : Int32) (S : MS) (sz : Nat) : gMi l yX4_placed wsX4_placed ({ frames := 2, cells := 0, slots := 0, locals := 52 }) G 27 b (MW G.2 b n) [.ref (b 0), .int x1, .int x2, .int x3] S sz (f_X4_placed n x1 x2 x3 S) := by
  unfold gMi
  refine Met.ofW (cc := cX4_placed) (maxL := 5) (ret := (some .int)) (by decide) rfl ?_
  intro p e s m args below meth c s₁ B hml hv
  obtain ⟨rfl, rfl, hP, hK⟩ := hv
  have hx := B.exec
  have hb := B.bytes
  have hr := B.returns
  have hts := atoms_spec (ws := wsX4_placed) B.pre
  have hown : s.vm.findClass RX4 = some m.cls := findClass_of_methodNamed B.named
  have hlocks := B.notSynchronized
  have hS : va_S (wA 27 b s.heap.size) s.heap s.heap [] := va_S.rf
  have hw4 : ∀ w ∈ wsX40, w.before ([.ref (b 0), .int x1, .int x2, .int x3] : List Value).toArray s = true := fun w hw => hts w ((by decide +kernel : ∀ w ∈ wsX40, w ∈ wsX4_placed) w hw)
  have hl := lv_entry ([.ref (b 0), .int x1, .int x2, .int x3]) (n := 5) (Nat.le_of_ble_eq_true rfl)
  rw [lg_entry_eq]
  generalize (lg_sl ([.ref (b 0), .int x1, .int x2, .int x3] : List Value) ++ List.replicate (5 - (lg_sl ([.ref (b 0), .int x1, .int x2, .int x3] : List Value)).length) Slot.unset).toArray = ls at hl ⊢
  have hl : lv_has ls 5 [(0, .ref (b 0)), (1, .int x1), (2, .int x2), (3, .int x3)] := hl
  generalize hF : f_X4_placed n x1 x2 x3 S = F
  have h : f_X4_placed n x1 x2 x3 S = F := hF
  clear hF
  show W p l e ({ frames := 2, cells := 0, slots := 0, locals := 52 } : Room) s m ([.ref (b 0), .int x1, .int x2, .int x3] : List Value).toArray below meth c s.heap [] 0 0 (gQi below G (MW G.2 b n) 27 b F ([.ref (b 0), .int x1, .int x2, .int x3] : List Value).toArray s) (F0 m 0 ls [])
  have J15 : ∀ (S15 : MS) (s0_15 : Int32), f_X4_placed_b15 n x1 x2 x3 S15 s0_15 = F → ∀ (H : Heap) (locs : List Loc) (ls : Array Slot), wM G b n S15 H → va_S (wA 27 b s.heap.size) s.heap H locs → lv_has ls 5 [(0, .ref (b 0))] → W p l e ({ frames := 2, cells := 0, slots := 0, locals := 52 } : Room) s m ([.ref (b 0), .int x1, .int x2, .int x3] : List Value).toArray below meth c H locs 0 0 (gQi below G (MW G.2 b n) 27 b F ([.ref (b 0), .int x1, .int x2, .int x3] : List Value).toArray s) (F0 m 15 ls [.int s0_15]) := by
    intro S15 s0_15 h H locs ls hP hS hl
    have J29 : ∀ (S29 : MS) (v4_29 : Int32) (s1_29 : Int32), (isB s1_29) → f_X4_placed_b29 n x1 x2 x3 S29 v4_29 s1_29 = F → ∀ (H : Heap) (locs : List Loc) (ls : Array Slot), wM G b n S29 H → va_S (wA 27 b s.heap.size) s.heap H locs → lv_has ls 5 [(4, .int v4_29)] → W p l e ({ frames := 2, cells := 0, slots := 0, locals := 52 } : Room) s m ([.ref (b 0), .int x1, .int x2, .int x3] : List Value).toArray below meth c H locs 0 0 (gQi below G (MW G.2 b n) 27 b F ([.ref (b 0), .int x1, .int x2, .int x3] : List Value).toArray s) (F0 m 29 ls [.int s1_29, .ref (b 0)]) := by
      intro S29 v4_29 s1_29 hbs1_29 h H locs ls hP hS hl
      have J44 : ∀ (S44 : MS) (s0_44 : Int32), f_X4_placed_b44 n x1 x2 x3 S44 s0_44 = F → ∀ (H : Heap) (locs : List Loc) (ls : Array Slot), wM G b n S44 H → va_S (wA 27 b s.heap.size) s.heap H locs → lv_has ls 5 [] → W p l e ({ frames := 2, cells := 0, slots := 0, locals := 52 } : Room) s m ([.ref (b 0), .int x1, .int x2, .int x3] : List Value).toArray below meth c H locs 0 0 (gQi below G (MW G.2 b n) 27 b F ([.ref (b 0), .int x1, .int x2, .int x3] : List Value).toArray s) (F0 m 44 ls [.int s0_44]) := by
        intro S44 s0_44 h H locs ls hP hS hl
        rewrite [f_X4_placed_b44] at h
        exact gRi (wf := MW G.2 b n) (S := S44) hx hb hr hlocks hP hS h dX4_placed_44
      rewrite [f_X4_placed_b29] at h
      refine mp hx hb hw4 hown hK ha hP hS 0 (by decide) rfl rfl okI (hts (.fieldLink RX4 103 "BackupPowerModel" "thrown" "I") (by decide +kernel)) dX4_placed_29 (fun H locs hP hS => ?_)
      refine lv_iload hx hb dX4_placed_32 (lv_at hl 0 rfl) ?_
      refine lv_iconst (v := (-1)) hx hb dX4_placed_34 (by decide) ?_
      refine lv_icmp_ne (tgt := 42) hx hb dX4_placed_35 (by decide) (fun c35 => ?_) (fun c35 => ?_)
      · rewrite [if_neg c35] at h
        refine lv_iload hx hb dX4_placed_42 (lv_at hl 0 rfl) ?_
        exact J44 (muS S29 0 s1_29) v4_29 h _ _ _ hP hS (lv_sub hl [] rfl)
      · rewrite [if_pos c35] at h
        refine lv_iconst (v := 0) hx hb dX4_placed_38 (by decide) ?_
        refine lv_goto (tgt := 44) hx hb dX4_placed_39 (by decide) ?_
        exact J44 (muS S29 0 s1_29) 0 h _ _ _ hP hS (lv_sub hl [] rfl)
    rewrite [f_X4_placed_b15] at h
    refine lv_istore (lv' := [(4, .int s0_15), (0, .ref (b 0))]) hx hb dX4_placed_15 hl (by decide) rfl (fun ls hl => ?_)
    refine lv_aload_n hx hb dX4_placed_17 rfl (lv_at hl 1 rfl) ?_
    refine lv_iload hx hb dX4_placed_18 (lv_at hl 0 rfl) ?_
    refine lv_iconst (v := (-1)) hx hb dX4_placed_20 (by decide) ?_
    refine lv_icmp_ne (tgt := 28) hx hb dX4_placed_21 (by decide) (fun c21 => ?_) (fun c21 => ?_)
    · rewrite [if_neg c21] at h
      refine lv_iconst (v := 0) hx hb dX4_placed_28 (by decide) ?_
      exact J29 S15 s0_15 0 isB_0 h _ _ _ hP hS (lv_sub hl [0] rfl)
    · rewrite [if_pos c21] at h
      refine lv_iconst (v := 1) hx hb dX4_placed_24 (by decide) ?_
      refine lv_goto (tgt := 29) hx hb dX4_placed_25 (by decide) ?_
      exact J29 S15 s0_15 1 isB_1 h _ _ _ hP hS (lv_sub hl [0] rfl)
  rewrite [f_X4_placed] at h
  refine lv_iload_n hx hb dX4_placed_0 rfl (lv_at hl 2 rfl) ?_
  refine lv_if_lt (tgt := 14) hx hb dX4_placed_1 (by decide) (fun c1 => ?_) (fun c1 => ?_)
  · rewrite [if_pos c1] at h
    refine lv_iconst (v := (-1)) hx hb dX4_placed_14 (by decide) ?_
    exact J15 S (-1) h _ _ _ hP hS (lv_sub hl [0] rfl)
  · rewrite [if_neg c1] at h
    refine lv_aload_n hx hb dX4_placed_4 rfl (lv_at hl 0 rfl) ?_
    refine lv_iload_n hx hb dX4_placed_5 rfl (lv_at hl 1 rfl) ?_
    refine lv_iload_n hx hb dX4_placed_6 rfl (lv_at hl 2 rfl) ?_
    refine lv_iload_n hx hb dX4_placed_7 rfl (lv_at hl 3 rfl) ?_
    refine gcVi (wf := MW G.2 b n) (N := 27) (ad := b) (As := [.int x1, .int x2, .int x3]) (rest := []) (S := S) ⟨hx, hb, hml, hown, hts⟩ hK hP hS (c_X4_inOrder l G b ha n hn x1 x2 x3 S _) (cwV 3 hts gX4_placed_X4_inOrder rfl rfl rfl (by decide +kernel) ⟨Nat.le_of_ble_eq_true rfl, Nat.le_of_ble_eq_true rfl⟩) (mrO hK hP) rfl hl.1 rfl (Nat.le_of_ble_eq_true rfl) dX4_placed_8 ⟨Nat.le_of_ble_eq_true rfl, Nat.le_of_ble_eq_true rfl⟩ (fun p8 H locs ep8 hP hS => ?_)
    rewrite [← ep8] at h
    rewrite [f_X4_placed_c8] at h
    refine lv_goto (tgt := 15) hx hb dX4_placed_11 (by decide) ?_
    exact J15 p8.2 p8.1 h _ _ _ hP hS (lv_sub hl [0] rfl)

def f_X4_shedOrder_c4 (n : Nat × Nat × Nat) (x1 : Int32) (p4 : Int32 × MS) : Int32 × MS := (p4.1, p4.2)
def f_X4_shedOrder (n : Nat × Nat × Nat) (x1 : Int32) (S : MS) : Int32 × MS := (f_X4_shedOrder_c4 n x1 (f_X4_placed n 1 x1 0 S))
set_option maxHeartbeats 4000000 in
set_option maxRecDepth 100000 in
theorem c_X4_shedOrder (l : Launch) (G : WG) (b : Nat → Nat) (ha : wInj 27 b) (n : Nat × Nat × Nat) (hn : n.1 ≤ 10 ∧ n.2.1 ≤ 3 ∧ n.2.2 ≤ 3) (x1 : Int32) (S : MS) (sz : Nat) : gMi l yX4_shedOrder wsX4_shedOrder ({ frames := 3, cells := 0, slots := 0, locals := 76 }) G 27 b (MW G.2 b n) [.ref (b 0), .int x1] S sz (f_X4_shedOrder n x1 S) := by
  unfold gMi
  refine Met.ofW (cc := cX4_shedOrder) (maxL := 2) (ret := (some .int)) (by decide) rfl ?_
  intro p e s m args below meth c s₁ B hml hv
  obtain ⟨rfl, rfl, hP, hK⟩ := hv
  have hx := B.exec
  have hb := B.bytes
  have hr := B.returns
  have hts := atoms_spec (ws := wsX4_shedOrder) B.pre
  have hown : s.vm.findClass RX4 = some m.cls := findClass_of_methodNamed B.named
  have hlocks := B.notSynchronized
  have hS : va_S (wA 27 b s.heap.size) s.heap s.heap [] := va_S.rf
  have hl := lv_entry ([.ref (b 0), .int x1]) (n := 2) (Nat.le_of_ble_eq_true rfl)
  rw [lg_entry_eq]
  generalize (lg_sl ([.ref (b 0), .int x1] : List Value) ++ List.replicate (2 - (lg_sl ([.ref (b 0), .int x1] : List Value)).length) Slot.unset).toArray = ls at hl ⊢
  have hl : lv_has ls 2 [(0, .ref (b 0)), (1, .int x1)] := hl
  generalize hF : f_X4_shedOrder n x1 S = F
  have h : f_X4_shedOrder n x1 S = F := hF
  clear hF
  show W p l e ({ frames := 3, cells := 0, slots := 0, locals := 76 } : Room) s m ([.ref (b 0), .int x1] : List Value).toArray below meth c s.heap [] 0 0 (gQi below G (MW G.2 b n) 27 b F ([.ref (b 0), .int x1] : List Value).toArray s) (F0 m 0 ls [])
  rewrite [f_X4_shedOrder] at h
  refine lv_aload_n hx hb dX4_shedOrder_0 rfl (lv_at hl 0 rfl) ?_
  refine lv_iconst (v := 1) hx hb dX4_shedOrder_1 (by decide) ?_
  refine lv_iload_n hx hb dX4_shedOrder_2 rfl (lv_at hl 1 rfl) ?_
  refine lv_iconst (v := 0) hx hb dX4_shedOrder_3 (by decide) ?_
  refine gcVi (wf := MW G.2 b n) (N := 27) (ad := b) (As := [.int 1, .int x1, .int 0]) (rest := []) (S := S) ⟨hx, hb, hml, hown, hts⟩ hK hP hS (c_X4_placed l G b ha n hn 1 x1 0 S _) (cwV 3 hts gX4_shedOrder_X4_placed rfl rfl rfl (by decide +kernel) ⟨Nat.le_of_ble_eq_true rfl, Nat.le_of_ble_eq_true rfl⟩) (mrO hK hP) rfl hl.1 rfl (Nat.le_of_ble_eq_true rfl) dX4_shedOrder_4 ⟨Nat.le_of_ble_eq_true rfl, Nat.le_of_ble_eq_true rfl⟩ (fun p4 H locs ep4 hP hS => ?_)
  rewrite [← ep4] at h
  rewrite [f_X4_shedOrder_c4] at h
  exact gRi (wf := MW G.2 b n) (S := p4.2) hx hb hr hlocks hP hS h dX4_shedOrder_7

def f_X4_returnOrder_c4 (n : Nat × Nat × Nat) (x1 : Int32) (p4 : Int32 × MS) : Int32 × MS := (p4.1, p4.2)
def f_X4_returnOrder (n : Nat × Nat × Nat) (x1 : Int32) (S : MS) : Int32 × MS := (f_X4_returnOrder_c4 n x1 (f_X4_placed n 2 x1 1 S))
set_option maxHeartbeats 4000000 in
set_option maxRecDepth 100000 in
theorem c_X4_returnOrder (l : Launch) (G : WG) (b : Nat → Nat) (ha : wInj 27 b) (n : Nat × Nat × Nat) (hn : n.1 ≤ 10 ∧ n.2.1 ≤ 3 ∧ n.2.2 ≤ 3) (x1 : Int32) (S : MS) (sz : Nat) : gMi l yX4_returnOrder wsX4_returnOrder ({ frames := 3, cells := 0, slots := 0, locals := 76 }) G 27 b (MW G.2 b n) [.ref (b 0), .int x1] S sz (f_X4_returnOrder n x1 S) := by
  unfold gMi
  refine Met.ofW (cc := cX4_returnOrder) (maxL := 2) (ret := (some .int)) (by decide) rfl ?_
  intro p e s m args below meth c s₁ B hml hv
  obtain ⟨rfl, rfl, hP, hK⟩ := hv
  have hx := B.exec
  have hb := B.bytes
  have hr := B.returns
  have hts := atoms_spec (ws := wsX4_returnOrder) B.pre
  have hown : s.vm.findClass RX4 = some m.cls := findClass_of_methodNamed B.named
  have hlocks := B.notSynchronized
  have hS : va_S (wA 27 b s.heap.size) s.heap s.heap [] := va_S.rf
  have hl := lv_entry ([.ref (b 0), .int x1]) (n := 2) (Nat.le_of_ble_eq_true rfl)
  rw [lg_entry_eq]
  generalize (lg_sl ([.ref (b 0), .int x1] : List Value) ++ List.replicate (2 - (lg_sl ([.ref (b 0), .int x1] : List Value)).length) Slot.unset).toArray = ls at hl ⊢
  have hl : lv_has ls 2 [(0, .ref (b 0)), (1, .int x1)] := hl
  generalize hF : f_X4_returnOrder n x1 S = F
  have h : f_X4_returnOrder n x1 S = F := hF
  clear hF
  show W p l e ({ frames := 3, cells := 0, slots := 0, locals := 76 } : Room) s m ([.ref (b 0), .int x1] : List Value).toArray below meth c s.heap [] 0 0 (gQi below G (MW G.2 b n) 27 b F ([.ref (b 0), .int x1] : List Value).toArray s) (F0 m 0 ls [])
  rewrite [f_X4_returnOrder] at h
  refine lv_aload_n hx hb dX4_returnOrder_0 rfl (lv_at hl 0 rfl) ?_
  refine lv_iconst (v := 2) hx hb dX4_returnOrder_1 (by decide) ?_
  refine lv_iload_n hx hb dX4_returnOrder_2 rfl (lv_at hl 1 rfl) ?_
  refine lv_iconst (v := 1) hx hb dX4_returnOrder_3 (by decide) ?_
  refine gcVi (wf := MW G.2 b n) (N := 27) (ad := b) (As := [.int 2, .int x1, .int 1]) (rest := []) (S := S) ⟨hx, hb, hml, hown, hts⟩ hK hP hS (c_X4_placed l G b ha n hn 2 x1 1 S _) (cwV 3 hts gX4_returnOrder_X4_placed rfl rfl rfl (by decide +kernel) ⟨Nat.le_of_ble_eq_true rfl, Nat.le_of_ble_eq_true rfl⟩) (mrO hK hP) rfl hl.1 rfl (Nat.le_of_ble_eq_true rfl) dX4_returnOrder_4 ⟨Nat.le_of_ble_eq_true rfl, Nat.le_of_ble_eq_true rfl⟩ (fun p4 H locs ep4 hP hS => ?_)
  rewrite [← ep4] at h
  rewrite [f_X4_returnOrder_c4] at h
  exact gRi (wf := MW G.2 b n) (S := p4.2) hx hb hr hlocks hP hS h dX4_returnOrder_7

def f_X4_generatorState_b38 (n : Nat × Nat × Nat) (x1 : Int32) (S38 : MS) (s0_38 : Int32) : Int32 × MS := (s0_38, S38)
def f_X4_generatorState_b37 (n : Nat × Nat × Nat) (x1 : Int32) (S37 : MS) (v2_37 : Int32) : Int32 × MS := (f_X4_generatorState_b38 n x1 S37 v2_37)
def f_X4_generatorState_c10 (n : Nat × Nat × Nat) (x1 : Int32) (p10 : Int32 × MS) : Int32 × MS := (if (p10.2.1 0) = 0 then (if (p10.2.2 17 x1.toNatClampNeg) = 0 then (f_X4_generatorState_b37 n x1 p10.2 p10.1) else (f_X4_generatorState_b38 n x1 p10.2 (p10.1 + 10))) else (f_X4_generatorState_b37 n x1 p10.2 p10.1))
def f_X4_generatorState (n : Nat × Nat × Nat) (x1 : Int32) (S : MS) : Int32 × MS := (f_X4_generatorState_c10 n x1 (f_X4_told n 16 x1 n.2.2 S))
set_option maxHeartbeats 4000000 in
set_option maxRecDepth 100000 in
theorem c_X4_generatorState (l : Launch) (G : WG) (b : Nat → Nat) (ha : wInj 27 b) (n : Nat × Nat × Nat) (hn : n.1 ≤ 10 ∧ n.2.1 ≤ 3 ∧ n.2.2 ≤ 3) (x1 : Int32) (S : MS) (sz : Nat) : gMi l yX4_generatorState wsX4_generatorState ({ frames := 2, cells := 0, slots := 0, locals := 45 }) G 27 b (MW G.2 b n) [.ref (b 0), .int x1] S sz (f_X4_generatorState n x1 S) := by
  unfold gMi
  refine Met.ofW (cc := cX4_generatorState) (maxL := 3) (ret := (some .int)) (by decide) rfl ?_
  intro p e s m args below meth c s₁ B hml hv
  obtain ⟨rfl, rfl, hP, hK⟩ := hv
  have hx := B.exec
  have hb := B.bytes
  have hr := B.returns
  have hts := atoms_spec (ws := wsX4_generatorState) B.pre
  have hown : s.vm.findClass RX4 = some m.cls := findClass_of_methodNamed B.named
  have hlocks := B.notSynchronized
  have hS : va_S (wA 27 b s.heap.size) s.heap s.heap [] := va_S.rf
  have hw4 : ∀ w ∈ wsX40, w.before ([.ref (b 0), .int x1] : List Value).toArray s = true := fun w hw => hts w ((by decide +kernel : ∀ w ∈ wsX40, w ∈ wsX4_generatorState) w hw)
  have hl := lv_entry ([.ref (b 0), .int x1]) (n := 3) (Nat.le_of_ble_eq_true rfl)
  rw [lg_entry_eq]
  generalize (lg_sl ([.ref (b 0), .int x1] : List Value) ++ List.replicate (3 - (lg_sl ([.ref (b 0), .int x1] : List Value)).length) Slot.unset).toArray = ls at hl ⊢
  have hl : lv_has ls 3 [(0, .ref (b 0)), (1, .int x1)] := hl
  generalize hF : f_X4_generatorState n x1 S = F
  have h : f_X4_generatorState n x1 S = F := hF
  clear hF
  show W p l e ({ frames := 2, cells := 0, slots := 0, locals := 45 } : Room) s m ([.ref (b 0), .int x1] : List Value).toArray below meth c s.heap [] 0 0 (gQi below G (MW G.2 b n) 27 b F ([.ref (b 0), .int x1] : List Value).toArray s) (F0 m 0 ls [])
  have J38 : ∀ (S38 : MS) (s0_38 : Int32), f_X4_generatorState_b38 n x1 S38 s0_38 = F → ∀ (H : Heap) (locs : List Loc) (ls : Array Slot), wM G b n S38 H → va_S (wA 27 b s.heap.size) s.heap H locs → lv_has ls 3 [] → W p l e ({ frames := 2, cells := 0, slots := 0, locals := 45 } : Room) s m ([.ref (b 0), .int x1] : List Value).toArray below meth c H locs 0 0 (gQi below G (MW G.2 b n) 27 b F ([.ref (b 0), .int x1] : List Value).toArray s) (F0 m 38 ls [.int s0_38]) := by
    intro S38 s0_38 h H locs ls hP hS hl
    rewrite [f_X4_generatorState_b38] at h
    exact gRi (wf := MW G.2 b n) (S := S38) hx hb hr hlocks hP hS h dX4_generatorState_38
  have J37 : ∀ (S37 : MS) (v2_37 : Int32), f_X4_generatorState_b37 n x1 S37 v2_37 = F → ∀ (H : Heap) (locs : List Loc) (ls : Array Slot), wM G b n S37 H → va_S (wA 27 b s.heap.size) s.heap H locs → lv_has ls 3 [(2, .int v2_37)] → W p l e ({ frames := 2, cells := 0, slots := 0, locals := 45 } : Room) s m ([.ref (b 0), .int x1] : List Value).toArray below meth c H locs 0 0 (gQi below G (MW G.2 b n) 27 b F ([.ref (b 0), .int x1] : List Value).toArray s) (F0 m 37 ls []) := by
    intro S37 v2_37 h H locs ls hP hS hl
    rewrite [f_X4_generatorState_b37] at h
    refine lv_iload_n hx hb dX4_generatorState_37 rfl (lv_at hl 0 rfl) ?_
    exact J38 S37 v2_37 h _ _ _ hP hS (lv_sub hl [] rfl)
  rewrite [f_X4_generatorState] at h
  refine lv_aload_n hx hb dX4_generatorState_0 rfl (lv_at hl 0 rfl) ?_
  refine lv_aload_n hx hb dX4_generatorState_1 rfl (lv_at hl 0 rfl) ?_
  refine mg hx hb hw4 hown hK hP 25 (by decide) (v := .ref (b 16)) rfl (hts (.fieldLink RX4 69 "BackupPowerModel" "modes" "[I") (by decide +kernel)) dX4_generatorState_2 ?_
  refine lv_iload_n hx hb dX4_generatorState_5 rfl (lv_at hl 1 rfl) ?_
  refine lv_aload_n hx hb dX4_generatorState_6 rfl (lv_at hl 0 rfl) ?_
  refine mg hx hb hw4 hown hK hP 20 (by decide) (v := .int (nI n.2.2)) rfl (hts (.fieldLink RX4 113 "BackupPowerModel" "generatorMany" "I") (by decide +kernel)) dX4_generatorState_7 ?_
  refine gcVi (wf := MW G.2 b n) (N := 27) (ad := b) (As := [.ref (b 16), .int x1, .int (nI n.2.2)]) (rest := []) (S := S) ⟨hx, hb, hml, hown, hts⟩ hK hP hS (c_X4_told l G b ha n hn 16 (by decide) x1 n.2.2 (show n.2.2 ≤ 3 by omega) S _) (cwV 3 hts gX4_generatorState_X4_told rfl rfl rfl (by decide +kernel) ⟨Nat.le_of_ble_eq_true rfl, Nat.le_of_ble_eq_true rfl⟩) (mrO hK hP) rfl hl.1 rfl (Nat.le_of_ble_eq_true rfl) dX4_generatorState_10 ⟨Nat.le_of_ble_eq_true rfl, Nat.le_of_ble_eq_true rfl⟩ (fun p10 H locs ep10 hP hS => ?_)
  rewrite [← ep10] at h
  rewrite [f_X4_generatorState_c10] at h
  refine lv_istore_n (lv' := [(2, .int p10.1), (0, .ref (b 0)), (1, .int x1)]) hx hb dX4_generatorState_13 rfl hl (by decide) rfl (fun ls hl => ?_)
  refine lv_aload_n hx hb dX4_generatorState_14 rfl (lv_at hl 1 rfl) ?_
  refine mg hx hb hw4 hown hK hP 0 (by decide) (v := .int (p10.2.1 0)) rfl (hts (.fieldLink RX4 103 "BackupPowerModel" "thrown" "I") (by decide +kernel)) dX4_generatorState_15 ?_
  refine lv_if_ne (tgt := 37) hx hb dX4_generatorState_18 (by decide) (fun c18 => ?_) (fun c18 => ?_)
  · rewrite [if_neg c18] at h
    exact J37 p10.2 p10.1 h _ _ _ hP hS (lv_sub hl [0] rfl)
  · rewrite [if_pos c18] at h
    refine lv_aload_n hx hb dX4_generatorState_21 rfl (lv_at hl 1 rfl) ?_
    refine mg hx hb hw4 hown hK hP 26 (by decide) (v := .ref (b 17)) rfl (hts (.fieldLink RX4 72 "BackupPowerModel" "isTest" "[Z") (by decide +kernel)) dX4_generatorState_22 ?_
    refine lv_iload_n hx hb dX4_generatorState_25 rfl (lv_at hl 2 rfl) ?_
    refine mzldI hx hb hK hP (told_in hn ep10 c18) dX4_generatorState_26 ?_
    refine lv_if_eq (tgt := 37) hx hb dX4_generatorState_27 (by decide) (fun c27 => ?_) (fun c27 => ?_)
    · rewrite [if_pos c27] at h
      exact J37 p10.2 p10.1 h _ _ _ hP hS (lv_sub hl [0] rfl)
    · rewrite [if_neg c27] at h
      refine lv_iload_n hx hb dX4_generatorState_30 rfl (lv_at hl 0 rfl) ?_
      refine lv_bipush (v := 10) hx hb dX4_generatorState_31 (by decide) ?_
      refine lv_iadd hx hb dX4_generatorState_33 ?_
      refine lv_goto (tgt := 38) hx hb dX4_generatorState_34 (by decide) ?_
      exact J38 p10.2 (p10.1 + 10) h _ _ _ hP hS (lv_sub hl [] rfl)

def f_X4_tests_b45 (n : Nat × Nat × Nat) (x1 : Int32) (S45 : MS) (s0_45 : Int32) : Int32 × MS := (s0_45, S45)
def f_X4_tests_b14 (n : Nat × Nat × Nat) (x1 : Int32) (S14 : MS) (s1_14 : Int32) : Int32 × MS := (if ((muS S14 0 s1_14).1 0) ≤ 0 then (f_X4_tests_b45 n x1 (muS S14 0 s1_14) ((1000 * ((muS S14 0 s1_14).2 25 x1.toNatClampNeg)) + ((muS S14 0 s1_14).2 26 x1.toNatClampNeg))) else (f_X4_tests_b45 n x1 (muS S14 0 s1_14) 0))
def f_X4_tests_c3 (n : Nat × Nat × Nat) (x1 : Int32) (p3 : Int32 × MS) : Int32 × MS := (if p3.1 = 0 then (f_X4_tests_b14 n x1 p3.2 1) else (f_X4_tests_b14 n x1 p3.2 0))
def f_X4_tests (n : Nat × Nat × Nat) (x1 : Int32) (S : MS) : Int32 × MS := (f_X4_tests_c3 n x1 (f_X4_isGenerator n x1 S))
set_option maxHeartbeats 4000000 in
set_option maxRecDepth 100000 in
theorem c_X4_tests (l : Launch) (G : WG) (b : Nat → Nat) (ha : wInj 27 b) (n : Nat × Nat × Nat) (hn : n.1 ≤ 10 ∧ n.2.1 ≤ 3 ∧ n.2.2 ≤ 3) (x1 : Int32) (S : MS) (sz : Nat) : gMi l yX4_tests wsX4_tests ({ frames := 2, cells := 0, slots := 0, locals := 43 }) G 27 b (MW G.2 b n) [.ref (b 0), .int x1] S sz (f_X4_tests n x1 S) := by
  unfold gMi
  refine Met.ofW (cc := cX4_tests) (maxL := 2) (ret := (some .int)) (by decide) rfl ?_
  intro p e s m args below meth c s₁ B hml hv
  obtain ⟨rfl, rfl, hP, hK⟩ := hv
  have hx := B.exec
  have hb := B.bytes
  have hr := B.returns
  have hts := atoms_spec (ws := wsX4_tests) B.pre
  have hown : s.vm.findClass RX4 = some m.cls := findClass_of_methodNamed B.named
  have hlocks := B.notSynchronized
  have hS : va_S (wA 27 b s.heap.size) s.heap s.heap [] := va_S.rf
  have hw4 : ∀ w ∈ wsX40, w.before ([.ref (b 0), .int x1] : List Value).toArray s = true := fun w hw => hts w ((by decide +kernel : ∀ w ∈ wsX40, w ∈ wsX4_tests) w hw)
  have hl := lv_entry ([.ref (b 0), .int x1]) (n := 2) (Nat.le_of_ble_eq_true rfl)
  rw [lg_entry_eq]
  generalize (lg_sl ([.ref (b 0), .int x1] : List Value) ++ List.replicate (2 - (lg_sl ([.ref (b 0), .int x1] : List Value)).length) Slot.unset).toArray = ls at hl ⊢
  have hl : lv_has ls 2 [(0, .ref (b 0)), (1, .int x1)] := hl
  generalize hF : f_X4_tests n x1 S = F
  have h : f_X4_tests n x1 S = F := hF
  clear hF
  show W p l e ({ frames := 2, cells := 0, slots := 0, locals := 43 } : Room) s m ([.ref (b 0), .int x1] : List Value).toArray below meth c s.heap [] 0 0 (gQi below G (MW G.2 b n) 27 b F ([.ref (b 0), .int x1] : List Value).toArray s) (F0 m 0 ls [])
  have J14 : ∀ (S14 : MS) (s1_14 : Int32), (isB s1_14) → (s1_14 ≤ 0 → vp_in x1 3) → f_X4_tests_b14 n x1 S14 s1_14 = F → ∀ (H : Heap) (locs : List Loc) (ls : Array Slot), wM G b n S14 H → va_S (wA 27 b s.heap.size) s.heap H locs → lv_has ls 2 [(0, .ref (b 0)), (1, .int x1)] → W p l e ({ frames := 2, cells := 0, slots := 0, locals := 43 } : Room) s m ([.ref (b 0), .int x1] : List Value).toArray below meth c H locs 0 0 (gQi below G (MW G.2 b n) 27 b F ([.ref (b 0), .int x1] : List Value).toArray s) (F0 m 14 ls [.int s1_14, .ref (b 0)]) := by
    intro S14 s1_14 hbs1_14 hj14 h H locs ls hP hS hl
    have J45 : ∀ (S45 : MS) (s0_45 : Int32), f_X4_tests_b45 n x1 S45 s0_45 = F → ∀ (H : Heap) (locs : List Loc) (ls : Array Slot), wM G b n S45 H → va_S (wA 27 b s.heap.size) s.heap H locs → lv_has ls 2 [] → W p l e ({ frames := 2, cells := 0, slots := 0, locals := 43 } : Room) s m ([.ref (b 0), .int x1] : List Value).toArray below meth c H locs 0 0 (gQi below G (MW G.2 b n) 27 b F ([.ref (b 0), .int x1] : List Value).toArray s) (F0 m 45 ls [.int s0_45]) := by
      intro S45 s0_45 h H locs ls hP hS hl
      rewrite [f_X4_tests_b45] at h
      exact gRi (wf := MW G.2 b n) (S := S45) hx hb hr hlocks hP hS h dX4_tests_45
    rewrite [f_X4_tests_b14] at h
    refine mp hx hb hw4 hown hK ha hP hS 0 (by decide) rfl rfl okI (hts (.fieldLink RX4 103 "BackupPowerModel" "thrown" "I") (by decide +kernel)) dX4_tests_14 (fun H locs hP hS => ?_)
    refine lv_aload_n hx hb dX4_tests_17 rfl (lv_at hl 0 rfl) ?_
    refine mg hx hb hw4 hown hK hP 0 (by decide) (v := .int ((muS S14 0 s1_14).1 0)) rfl (hts (.fieldLink RX4 103 "BackupPowerModel" "thrown" "I") (by decide +kernel)) dX4_tests_18 ?_
    refine lv_if_le (tgt := 28) hx hb dX4_tests_21 (by decide) (fun c21 => ?_) (fun c21 => ?_)
    · rewrite [if_pos c21] at h
      have hix : vp_in x1 3 := hj14 (by simpa [muS, up1] using c21)
      refine lv_sipush (v := 1000) hx hb dX4_tests_28 (by decide) ?_
      refine lv_aload_n hx hb dX4_tests_31 rfl (lv_at hl 0 rfl) ?_
      refine mg hx hb hw4 hown hK hP 34 (by decide) (v := .ref (b 25)) rfl (hts (.fieldLink RX4 97 "BackupPowerModel" "passedTests" "[I") (by decide +kernel)) dX4_tests_32 ?_
      refine lv_iload_n hx hb dX4_tests_35 rfl (lv_at hl 1 rfl) ?_
      refine mldI hx hb hK hP 25 (by decide) hix dX4_tests_36 ?_
      refine lv_imul hx hb dX4_tests_37 ?_
      refine lv_aload_n hx hb dX4_tests_38 rfl (lv_at hl 0 rfl) ?_
      refine mg hx hb hw4 hown hK hP 35 (by decide) (v := .ref (b 26)) rfl (hts (.fieldLink RX4 100 "BackupPowerModel" "failedTests" "[I") (by decide +kernel)) dX4_tests_39 ?_
      refine lv_iload_n hx hb dX4_tests_42 rfl (lv_at hl 1 rfl) ?_
      refine mldI hx hb hK hP 26 (by decide) hix dX4_tests_43 ?_
      refine lv_iadd hx hb dX4_tests_44 ?_
      exact J45 (muS S14 0 s1_14) ((1000 * ((muS S14 0 s1_14).2 25 x1.toNatClampNeg)) + ((muS S14 0 s1_14).2 26 x1.toNatClampNeg)) h _ _ _ hP hS (lv_sub hl [] rfl)
    · rewrite [if_neg c21] at h
      refine lv_iconst (v := 0) hx hb dX4_tests_24 (by decide) ?_
      refine lv_goto (tgt := 45) hx hb dX4_tests_25 (by decide) ?_
      exact J45 (muS S14 0 s1_14) 0 h _ _ _ hP hS (lv_sub hl [] rfl)
  rewrite [f_X4_tests] at h
  refine lv_aload_n hx hb dX4_tests_0 rfl (lv_at hl 0 rfl) ?_
  refine lv_aload_n hx hb dX4_tests_1 rfl (lv_at hl 0 rfl) ?_
  refine lv_iload_n hx hb dX4_tests_2 rfl (lv_at hl 1 rfl) ?_
  refine gcVz (wf := MW G.2 b n) (N := 27) (ad := b) (As := [.int x1]) (rest := [.ref (b 0)]) (S := S) ⟨hx, hb, hml, hown, hts⟩ hK hP hS (c_X4_isGenerator l G b ha n hn x1 S _) (cwV 1 hts gX4_tests_X4_isGenerator rfl rfl rfl (by decide +kernel) ⟨Nat.le_of_ble_eq_true rfl, Nat.le_of_ble_eq_true rfl⟩) (mrO hK hP) rfl hl.1 rfl (Nat.le_of_ble_eq_true rfl) dX4_tests_3 ⟨Nat.le_of_ble_eq_true rfl, Nat.le_of_ble_eq_true rfl⟩ (fun p3 H locs ep3 hbp3 hP hS => ?_)
  rewrite [← ep3] at h
  rewrite [f_X4_tests_c3] at h
  refine lv_if_eq (tgt := 13) hx hb dX4_tests_6 (by decide) (fun c6 => ?_) (fun c6 => ?_)
  · rewrite [if_pos c6] at h
    refine lv_iconst (v := 1) hx hb dX4_tests_13 (by decide) ?_
    exact J14 p3.2 1 isB_1 (by first | (intro z; exact absurd z (by decide)) | (intro _; exact isGen_in hn ep3 c6)) h _ _ _ hP hS (lv_sub hl [0, 1] rfl)
  · rewrite [if_neg c6] at h
    refine lv_iconst (v := 0) hx hb dX4_tests_9 (by decide) ?_
    refine lv_goto (tgt := 14) hx hb dX4_tests_10 (by decide) ?_
    exact J14 p3.2 0 isB_0 (by first | (intro z; exact absurd z (by decide)) | (intro _; exact isGen_in hn ep3 c6)) h _ _ _ hP hS (lv_sub hl [0, 1] rfl)
