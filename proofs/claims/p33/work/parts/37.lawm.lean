def f_L_isMinute_b191 (x3 : Nat) (x4 : Nat) (x5 : Nat) (x6 : Int32) (t9 : Nat) (f9 : Int32) (K94 : Nat → CS → Int32 → Int32 → Int32 → Int32 → Int32 → Int32 × CS) (k94 : Nat) (S191 : CS) (v7_191 : Int32) (v8_191 : Int32) (v10_191 : Int32) (v11_191 : Int32) (v12_191 : Int32) : Int32 × CS := (K94 (k94 + 1) S191 v7_191 v8_191 v10_191 v11_191 v12_191)
def f_L_isMinute_b183 (x3 : Nat) (x4 : Nat) (x5 : Nat) (x6 : Int32) (t9 : Nat) (f9 : Int32) (K94 : Nat → CS → Int32 → Int32 → Int32 → Int32 → Int32 → Int32 × CS) (k94 : Nat) (S183 : CS) (v7_183 : Int32) (v8_183 : Int32) (v10_183 : Int32) (v11_183 : Int32) (v12_183 : Int32) (s0_183 : Int32) (s1_183 : Int32) : Int32 × CS := (f_L_isMinute_b191 x3 x4 x5 x6 t9 f9 K94 k94 S183 v7_183 v8_183 v10_183 v11_183 v12_183)
def f_L_isMinute_b173 (x3 : Nat) (x4 : Nat) (x5 : Nat) (x6 : Int32) (t9 : Nat) (f9 : Int32) (K94 : Nat → CS → Int32 → Int32 → Int32 → Int32 → Int32 → Int32 × CS) (k94 : Nat) (S173 : CS) (v7_173 : Int32) (v8_173 : Int32) (v10_173 : Int32) (v11_173 : Int32) (v12_173 : Int32) (v15_173 : Int32) (s0_173 : Int32) : Int32 × CS := (if v15_173 = 0 then (f_L_isMinute_b183 x3 x4 x5 x6 t9 f9 K94 k94 S173 v7_173 v8_173 v10_173 v11_173 v12_173 s0_173 1) else (f_L_isMinute_b183 x3 x4 x5 x6 t9 f9 K94 k94 S173 v7_173 v8_173 v10_173 v11_173 v12_173 s0_173 0))
def f_L_isMinute_b153 (x3 : Nat) (x4 : Nat) (x5 : Nat) (x6 : Int32) (t9 : Nat) (f9 : Int32) (K94 : Nat → CS → Int32 → Int32 → Int32 → Int32 → Int32 → Int32 × CS) (k94 : Nat) (S153 : CS) (v7_153 : Int32) (v8_153 : Int32) (v10_153 : Int32) (v11_153 : Int32) (v15_153 : Int32) (s0_153 : Int32) (s1_153 : Int32) : Int32 × CS := (if (S153.2.1 k94 6) = 0 then (f_L_isMinute_b173 x3 x4 x5 x6 t9 f9 K94 k94 S153 v7_153 v8_153 v10_153 v11_153 (s0_153 + s1_153) v15_153 1) else (f_L_isMinute_b173 x3 x4 x5 x6 t9 f9 K94 k94 S153 v7_153 v8_153 v10_153 v11_153 (s0_153 + s1_153) v15_153 0))
def f_L_isMinute_b152 (x3 : Nat) (x4 : Nat) (x5 : Nat) (x6 : Int32) (t9 : Nat) (f9 : Int32) (K94 : Nat → CS → Int32 → Int32 → Int32 → Int32 → Int32 → Int32 × CS) (k94 : Nat) (S152 : CS) (v7_152 : Int32) (v8_152 : Int32) (v10_152 : Int32) (v11_152 : Int32) (v15_152 : Int32) (s0_152 : Int32) : Int32 × CS := (f_L_isMinute_b153 x3 x4 x5 x6 t9 f9 K94 k94 S152 v7_152 v8_152 v10_152 v11_152 v15_152 s0_152 0)
def f_L_isMinute_b129 (x3 : Nat) (x4 : Nat) (x5 : Nat) (x6 : Int32) (t9 : Nat) (f9 : Int32) (K94 : Nat → CS → Int32 → Int32 → Int32 → Int32 → Int32 → Int32 × CS) (k94 : Nat) (S129 : CS) (v7_129 : Int32) (v8_129 : Int32) (v10_129 : Int32) (v12_129 : Int32) (v15_129 : Int32) (s0_129 : Int32) (s1_129 : Int32) : Int32 × CS := (if (S129.2.1 k94 6) = 1 then (if v15_129 = 2 then (f_L_isMinute_b153 x3 x4 x5 x6 t9 f9 K94 k94 S129 v7_129 v8_129 v10_129 (s0_129 + s1_129) v15_129 v12_129 1) else (f_L_isMinute_b152 x3 x4 x5 x6 t9 f9 K94 k94 S129 v7_129 v8_129 v10_129 (s0_129 + s1_129) v15_129 v12_129)) else (f_L_isMinute_b152 x3 x4 x5 x6 t9 f9 K94 k94 S129 v7_129 v8_129 v10_129 (s0_129 + s1_129) v15_129 v12_129))
def f_L_isMinute_b128 (x3 : Nat) (x4 : Nat) (x5 : Nat) (x6 : Int32) (t9 : Nat) (f9 : Int32) (K94 : Nat → CS → Int32 → Int32 → Int32 → Int32 → Int32 → Int32 × CS) (k94 : Nat) (S128 : CS) (v7_128 : Int32) (v8_128 : Int32) (v10_128 : Int32) (v12_128 : Int32) (v15_128 : Int32) (s0_128 : Int32) : Int32 × CS := (f_L_isMinute_b129 x3 x4 x5 x6 t9 f9 K94 k94 S128 v7_128 v8_128 v10_128 v12_128 v15_128 s0_128 0)
def f_L_isMinute_b321 (x3 : Nat) (x4 : Nat) (x5 : Nat) (x6 : Int32) (t9 : Nat) (f9 : Int32) (S321 : CS) : Int32 × CS := (1, S321)
def f_L_isMinute_b316 (x3 : Nat) (x4 : Nat) (x5 : Nat) (x6 : Int32) (t9 : Nat) (f9 : Int32) (S316 : CS) : Int32 × CS := (f_L_isMinute_b321 x3 x4 x5 x6 t9 f9 S316)
def f_L_isMinute_b301 (x3 : Nat) (x4 : Nat) (x5 : Nat) (x6 : Int32) (t9 : Nat) (f9 : Int32) (S301 : CS) (v11_301 : Int32) : Int32 × CS := (if 0 < (nI x5) then (f_L_isMinute_b316 x3 x4 x5 x6 t9 f9 S301) else (if x6 = 0 then (f_L_isMinute_b316 x3 x4 x5 x6 t9 f9 S301) else (f_L_isMinute_b316 x3 x4 x5 x6 t9 f9 S301)))
def f_L_isMinute_b248 (x3 : Nat) (x4 : Nat) (x5 : Nat) (x6 : Int32) (t9 : Nat) (f9 : Int32) (S248 : CS) (v6_248 : Int32) (v7_248 : Int32) (v8_248 : Int32) (v11_248 : Int32) : Int32 × CS := (if x6 = 0 then (f_L_isMinute_b301 x3 x4 x5 x6 t9 f9 S248 v11_248) else (f_L_isMinute_b301 x3 x4 x5 x6 t9 f9 S248 v11_248))
def f_L_isMinute_b243 (x3 : Nat) (x4 : Nat) (x5 : Nat) (x6 : Int32) (t9 : Nat) (f9 : Int32) (S243 : CS) (v6_243 : Int32) (v7_243 : Int32) (v8_243 : Int32) (v11_243 : Int32) : Int32 × CS := (f_L_isMinute_b248 x3 x4 x5 x6 t9 f9 S243 v6_243 v7_243 v8_243 v11_243)
def f_L_isMinute_b233 (x3 : Nat) (x4 : Nat) (x5 : Nat) (x6 : Int32) (t9 : Nat) (f9 : Int32) (S233 : CS) (v6_233 : Int32) (v7_233 : Int32) (v8_233 : Int32) (v10_233 : Int32) (v11_233 : Int32) : Int32 × CS := (if x6 = 0 then (f_L_isMinute_b243 x3 x4 x5 x6 t9 f9 S233 v6_233 v7_233 v8_233 v11_233) else (f_L_isMinute_b243 x3 x4 x5 x6 t9 f9 S233 v6_233 v7_233 v8_233 v11_233))
def f_L_isMinute_h94 (x3 : Nat) (x4 : Nat) (x5 : Nat) (x6 : Int32) (t9 : Nat) (f9 : Int32) : Nat → Nat → CS → Int32 → Int32 → Int32 → Int32 → Int32 → Int32 × CS
  | 0, _, S94, _, _, _, _, _ => (0, S94)
  | q + 1, k94, S94, v7_94, v8_94, v10_94, v11_94, v12_94 => (if x3 ≤ k94 then (if v11_94 = 0 then (f_L_isMinute_b233 x3 x4 x5 x6 t9 f9 S94 (dem S94) v7_94 v8_94 v10_94 v11_94) else (f_L_isMinute_b233 x3 x4 x5 x6 t9 f9 S94 (dem S94) v7_94 v8_94 v10_94 v11_94)) else (if (S94.2.1 k94 6) = 2 then (if (S94.2.1 k94 3) = 1 then (f_L_isMinute_b129 x3 x4 x5 x6 t9 f9 (f_L_isMinute_h94 x3 x4 x5 x6 t9 f9 q) k94 S94 v7_94 v8_94 v10_94 v12_94 (S94.2.1 k94 3) v11_94 1) else (f_L_isMinute_b128 x3 x4 x5 x6 t9 f9 (f_L_isMinute_h94 x3 x4 x5 x6 t9 f9 q) k94 S94 v7_94 v8_94 v10_94 v12_94 (S94.2.1 k94 3) v11_94)) else (f_L_isMinute_b128 x3 x4 x5 x6 t9 f9 (f_L_isMinute_h94 x3 x4 x5 x6 t9 f9 q) k94 S94 v7_94 v8_94 v10_94 v12_94 (S94.2.1 k94 3) v11_94)))
def f_L_isMinute_b89 (x3 : Nat) (x4 : Nat) (x5 : Nat) (x6 : Int32) (t9 : Nat) (f9 : Int32) (S89 : CS) (v7_89 : Int32) (v8_89 : Int32) (v10_89 : Int32) : Int32 × CS := (f_L_isMinute_h94 x3 x4 x5 x6 t9 f9 (x3 + 1) 0 S89 v7_89 v8_89 v10_89 0 0)
def f_L_isMinute_b81 (x3 : Nat) (x4 : Nat) (x5 : Nat) (x6 : Int32) (t9 : Nat) (f9 : Int32) (S81 : CS) (v7_81 : Int32) (v8_81 : Int32) (v10_81 : Int32) (s0_81 : Int32) (s1_81 : Int32) : Int32 × CS := (f_L_isMinute_b89 x3 x4 x5 x6 t9 f9 S81 v7_81 v8_81 v10_81)
def f_L_isMinute_c53 (x3 : Nat) (x4 : Nat) (x5 : Nat) (x6 : Int32) (t9 : Nat) (f9 : Int32) (S6 : CS) (p53 : Int32 × CS) : Int32 × CS := (if x6 = 0 then (f_L_isMinute_b81 x3 x4 x5 x6 t9 f9 p53.2 (S6.1 12) ((S6.1 13) + (S6.1 14)) p53.1 (p53.2.1 8) ((S6.1 8) + 1)) else (f_L_isMinute_b81 x3 x4 x5 x6 t9 f9 p53.2 (S6.1 12) ((S6.1 13) + (S6.1 14)) p53.1 (p53.2.1 8) 0))
def f_L_isMinute_h6 (x3 : Nat) (x4 : Nat) (x5 : Nat) (x6 : Int32) (t9 : Nat) (f9 : Int32) : Nat → Nat → CS → Int32 × CS
  | 0, _, S6 => (0, S6)
  | q + 1, k6, S6 => (if x3 ≤ k6 then (f_L_isMinute_c53 x3 x4 x5 x6 t9 f9 S6 (f_X3_pass 1 S6)) else ((f_L_isMinute_h6 x3 x4 x5 x6 t9 f9 q) (k6 + 1) (cuL S6 k6 6 (S6.2.1 k6 3))))
def f_L_isMinute (x3 : Nat) (x4 : Nat) (x5 : Nat) (x6 : Int32) (t9 : Nat) (f9 : Int32) (S : CS) : Int32 × CS := (f_L_isMinute_h6 x3 x4 x5 x6 t9 f9 (x3 + 1) 0 S)
set_option maxHeartbeats 4000000 in
set_option maxRecDepth 100000 in
theorem c_L_isMinute (l : Launch) (G : WG) (a : Nat → Nat) (ha : wInj 21 a) (x3 : Nat) (hx3 : x3 ≤ 10) (x4 : Nat) (hx4 : x4 ≤ 3) (x5 : Nat) (hx5 : x5 ≤ 3) (x6 : Int32) (hbx6 : isB x6) (t9 : Nat) (ht9 : t9 ≤ 2000) (f9 : Int32) (S : CS) (hI : JI (x3, x4, x5) t9 f9 S) (h6 : S.1 6 = x6) (sz : Nat) : gMz l yL_isMinute wsL_isMinute ({ frames := 6, cells := 0, slots := 0, locals := 141 }) G 21 a (CW G.2 a) [.ref (a 0), .ref (a 20), .int (nI x3), .int (nI x4), .int (nI x5), .int x6] S sz (f_L_isMinute x3 x4 x5 x6 t9 f9 S) := by
  unfold gMz
  refine Met.ofW (cc := cL_isMinute) (maxL := 16) (ret := (some .boolean)) (by decide) rfl ?_
  intro p e s m args below meth c s₁ B hml hv
  obtain ⟨rfl, rfl, hP, hK⟩ := hv
  have hx := B.exec
  have hb := B.bytes
  have hr := B.returns
  have hts := atoms_spec (ws := wsL_isMinute) B.pre
  have hown : s.vm.findClass RL = some m.cls := findClass_of_methodNamed B.named
  have hlocks := B.notSynchronized
  have hS : va_S (wA 21 a s.heap.size) s.heap s.heap [] := va_S.rf
  have hl := lv_entry ([.ref (a 0), .ref (a 20), .int (nI x3), .int (nI x4), .int (nI x5), .int x6]) (n := 16) (Nat.le_of_ble_eq_true rfl)
  rw [lg_entry_eq]
  generalize (lg_sl ([.ref (a 0), .ref (a 20), .int (nI x3), .int (nI x4), .int (nI x5), .int x6] : List Value) ++ List.replicate (16 - (lg_sl ([.ref (a 0), .ref (a 20), .int (nI x3), .int (nI x4), .int (nI x5), .int x6] : List Value)).length) Slot.unset).toArray = ls at hl ⊢
  have hl : lv_has ls 16 [(0, .ref (a 0)), (1, .ref (a 20)), (2, .int (nI x3)), (3, .int (nI x4)), (4, .int (nI x5)), (5, .int x6)] := hl
  generalize hF : f_L_isMinute x3 x4 x5 x6 t9 f9 S = F
  have h : f_L_isMinute x3 x4 x5 x6 t9 f9 S = F := hF
  clear hF
  show W p l e ({ frames := 6, cells := 0, slots := 0, locals := 141 } : Room) s m ([.ref (a 0), .ref (a 20), .int (nI x3), .int (nI x4), .int (nI x5), .int x6] : List Value).toArray below meth c s.heap [] 0 0 (gQz below G (CW G.2 a) 21 a F ([.ref (a 0), .ref (a 20), .int (nI x3), .int (nI x4), .int (nI x5), .int x6] : List Value).toArray s) (F0 m 0 ls [])
  have L6 : ∀ (q6 : Nat) (k6 : Nat) (S6 : CS), (JI (x3, x4, x5) t9 f9 S6) → (S6.1 6 = x6) → (∀ j, j < k6 → S6.2.1 j 6 = S6.2.1 j 3) → k6 ≤ x3 → x3 < k6 + q6 → f_L_isMinute_h6 x3 x4 x5 x6 t9 f9 q6 k6 S6 = F → ∀ (H : Heap) (locs : List Loc) (ls : Array Slot), wC G a S6 H → va_S (wA 21 a s.heap.size) s.heap H locs → lv_has ls 16 [(0, .ref (a 0)), (1, .ref (a 20)), (2, .int (nI x3)), (4, .int (nI x5)), (5, .int x6), (7, .int (nI k6))] → W p l e ({ frames := 6, cells := 0, slots := 0, locals := 141 } : Room) s m ([.ref (a 0), .ref (a 20), .int (nI x3), .int (nI x4), .int (nI x5), .int x6] : List Value).toArray below meth c H locs 0 0 (gQz below G (CW G.2 a) 21 a F ([.ref (a 0), .ref (a 20), .int (nI x3), .int (nI x4), .int (nI x5), .int x6] : List Value).toArray s) (F0 m 6 ls []) := by
    intro q6
    induction q6 with
    | zero => intro k6 S6 hI h6 hd hk6 hq6 h H locs ls hP hS hl; omega
    | succ q6 ih6 =>
      intro k6 S6 hI h6 hd hk6 hq6 h H locs ls hP hS hl
      have J81 : ∀ (S81 : CS) (v7_81 : Int32) (v8_81 : Int32) (v10_81 : Int32) (s0_81 : Int32) (s1_81 : Int32), (JI (x3, x4, x5) (t9 + 1) f9 S81) → (IM (x3, x4, x5) x6 S81 v7_81 v8_81 v10_81) → (s0_81 = s1_81) → f_L_isMinute_b81 x3 x4 x5 x6 t9 f9 S81 v7_81 v8_81 v10_81 s0_81 s1_81 = F → ∀ (H : Heap) (locs : List Loc) (ls : Array Slot), wC G a S81 H → va_S (wA 21 a s.heap.size) s.heap H locs → lv_has ls 16 [(0, .ref (a 0)), (1, .ref (a 20)), (2, .int (nI x3)), (4, .int (nI x5)), (5, .int x6), (7, .int v7_81), (8, .int v8_81), (10, .int v10_81), (11, .int 0), (12, .int 0)] → W p l e ({ frames := 6, cells := 0, slots := 0, locals := 141 } : Room) s m ([.ref (a 0), .ref (a 20), .int (nI x3), .int (nI x4), .int (nI x5), .int x6] : List Value).toArray below meth c H locs 0 0 (gQz below G (CW G.2 a) 21 a F ([.ref (a 0), .ref (a 20), .int (nI x3), .int (nI x4), .int (nI x5), .int x6] : List Value).toArray s) (F0 m 81 ls [.int s1_81, .int s0_81]) := by
        intro S81 v7_81 v8_81 v10_81 s0_81 s1_81 hI hM ho h H locs ls hP hS hl
        have J89 : ∀ (S89 : CS) (v7_89 : Int32) (v8_89 : Int32) (v10_89 : Int32), (JI (x3, x4, x5) (t9 + 1) f9 S89) → (IM (x3, x4, x5) x6 S89 v7_89 v8_89 v10_89) → f_L_isMinute_b89 x3 x4 x5 x6 t9 f9 S89 v7_89 v8_89 v10_89 = F → ∀ (H : Heap) (locs : List Loc) (ls : Array Slot), wC G a S89 H → va_S (wA 21 a s.heap.size) s.heap H locs → lv_has ls 16 [(0, .ref (a 0)), (1, .ref (a 20)), (2, .int (nI x3)), (4, .int (nI x5)), (5, .int x6), (7, .int v7_89), (8, .int v8_89), (10, .int v10_89), (11, .int 0), (12, .int 0)] → W p l e ({ frames := 6, cells := 0, slots := 0, locals := 141 } : Room) s m ([.ref (a 0), .ref (a 20), .int (nI x3), .int (nI x4), .int (nI x5), .int x6] : List Value).toArray below meth c H locs 0 0 (gQz below G (CW G.2 a) 21 a F ([.ref (a 0), .ref (a 20), .int (nI x3), .int (nI x4), .int (nI x5), .int x6] : List Value).toArray s) (F0 m 89 ls [.int 1]) := by
          intro S89 v7_89 v8_89 v10_89 hI hM h H locs ls hP hS hl
          have L94 : ∀ (q94 : Nat) (k94 : Nat) (S94 : CS) (v7_94 : Int32) (v8_94 : Int32) (v10_94 : Int32) (v11_94 : Int32) (v12_94 : Int32), (JI (x3, x4, x5) (t9 + 1) f9 S94) → (IM (x3, x4, x5) x6 S94 v7_94 v8_94 v10_94) → (v11_94 = nI (cnt (ob6 2 1 S94) k94)) → (v12_94 = nI (cnt (ob6 1 2 S94) k94)) → k94 ≤ x3 → x3 < k94 + q94 → f_L_isMinute_h94 x3 x4 x5 x6 t9 f9 q94 k94 S94 v7_94 v8_94 v10_94 v11_94 v12_94 = F → ∀ (H : Heap) (locs : List Loc) (ls : Array Slot), wC G a S94 H → va_S (wA 21 a s.heap.size) s.heap H locs → lv_has ls 16 [(0, .ref (a 0)), (1, .ref (a 20)), (2, .int (nI x3)), (4, .int (nI x5)), (5, .int x6), (7, .int v7_94), (8, .int v8_94), (10, .int v10_94), (11, .int v11_94), (12, .int v12_94), (13, .int 1), (14, .int (nI k94))] → W p l e ({ frames := 6, cells := 0, slots := 0, locals := 141 } : Room) s m ([.ref (a 0), .ref (a 20), .int (nI x3), .int (nI x4), .int (nI x5), .int x6] : List Value).toArray below meth c H locs 0 0 (gQz below G (CW G.2 a) 21 a F ([.ref (a 0), .ref (a 20), .int (nI x3), .int (nI x4), .int (nI x5), .int x6] : List Value).toArray s) (F0 m 94 ls []) := by
            intro q94
            induction q94 with
            | zero => intro k94 S94 v7_94 v8_94 v10_94 v11_94 v12_94 hI hM hbk hg hk94 hq94 h H locs ls hP hS hl; omega
            | succ q94 ih94 =>
              intro k94 S94 v7_94 v8_94 v10_94 v11_94 v12_94 hI hM hbk hg hk94 hq94 h H locs ls hP hS hl
              have J129 : ∀ (S129 : CS) (v7_129 : Int32) (v8_129 : Int32) (v10_129 : Int32) (v12_129 : Int32) (v15_129 : Int32) (s0_129 : Int32) (s1_129 : Int32), (isB s1_129) → (JI (x3, x4, x5) (t9 + 1) f9 S129) → (IM (x3, x4, x5) x6 S129 v7_129 v8_129 v10_129) → (s0_129 = nI (cnt (ob6 2 1 S129) k94)) → (v12_129 = nI (cnt (ob6 1 2 S129) k94)) → (v15_129 = S129.2.1 k94 3) → (s1_129 = (if S129.2.1 k94 6 = 2 ∧ S129.2.1 k94 3 = 1 then 1 else 0)) → (k94 < x3) → f_L_isMinute_b129 x3 x4 x5 x6 t9 f9 (f_L_isMinute_h94 x3 x4 x5 x6 t9 f9 q94) k94 S129 v7_129 v8_129 v10_129 v12_129 v15_129 s0_129 s1_129 = F → ∀ (H : Heap) (locs : List Loc) (ls : Array Slot), wC G a S129 H → va_S (wA 21 a s.heap.size) s.heap H locs → lv_has ls 16 [(0, .ref (a 0)), (1, .ref (a 20)), (2, .int (nI x3)), (4, .int (nI x5)), (5, .int x6), (7, .int v7_129), (8, .int v8_129), (10, .int v10_129), (12, .int v12_129), (13, .int 1), (14, .int (nI k94)), (15, .int v15_129)] → W p l e ({ frames := 6, cells := 0, slots := 0, locals := 141 } : Room) s m ([.ref (a 0), .ref (a 20), .int (nI x3), .int (nI x4), .int (nI x5), .int x6] : List Value).toArray below meth c H locs 0 0 (gQz below G (CW G.2 a) 21 a F ([.ref (a 0), .ref (a 20), .int (nI x3), .int (nI x4), .int (nI x5), .int x6] : List Value).toArray s) (F0 m 129 ls [.int s1_129, .int s0_129]) := by
                intro S129 v7_129 v8_129 v10_129 v12_129 v15_129 s0_129 s1_129 hbs1_129 hI hM hbk hg h15 hs hkb94 h H locs ls hP hS hl
                have J153 : ∀ (S153 : CS) (v7_153 : Int32) (v8_153 : Int32) (v10_153 : Int32) (v11_153 : Int32) (v15_153 : Int32) (s0_153 : Int32) (s1_153 : Int32), (isB s1_153) → (JI (x3, x4, x5) (t9 + 1) f9 S153) → (IM (x3, x4, x5) x6 S153 v7_153 v8_153 v10_153) → (v11_153 = nI (cnt (ob6 2 1 S153) (k94 + 1))) → (s0_153 = nI (cnt (ob6 1 2 S153) k94)) → (v15_153 = S153.2.1 k94 3) → (s1_153 = (if S153.2.1 k94 6 = 1 ∧ S153.2.1 k94 3 = 2 then 1 else 0)) → (k94 < x3) → f_L_isMinute_b153 x3 x4 x5 x6 t9 f9 (f_L_isMinute_h94 x3 x4 x5 x6 t9 f9 q94) k94 S153 v7_153 v8_153 v10_153 v11_153 v15_153 s0_153 s1_153 = F → ∀ (H : Heap) (locs : List Loc) (ls : Array Slot), wC G a S153 H → va_S (wA 21 a s.heap.size) s.heap H locs → lv_has ls 16 [(0, .ref (a 0)), (1, .ref (a 20)), (2, .int (nI x3)), (4, .int (nI x5)), (5, .int x6), (7, .int v7_153), (8, .int v8_153), (10, .int v10_153), (11, .int v11_153), (13, .int 1), (14, .int (nI k94)), (15, .int v15_153)] → W p l e ({ frames := 6, cells := 0, slots := 0, locals := 141 } : Room) s m ([.ref (a 0), .ref (a 20), .int (nI x3), .int (nI x4), .int (nI x5), .int x6] : List Value).toArray below meth c H locs 0 0 (gQz below G (CW G.2 a) 21 a F ([.ref (a 0), .ref (a 20), .int (nI x3), .int (nI x4), .int (nI x5), .int x6] : List Value).toArray s) (F0 m 153 ls [.int s1_153, .int s0_153]) := by
                  intro S153 v7_153 v8_153 v10_153 v11_153 v15_153 s0_153 s1_153 hbs1_153 hI hM hbk hg h15 hs hkb94 h H locs ls hP hS hl
                  have J191 : ∀ (S191 : CS) (v7_191 : Int32) (v8_191 : Int32) (v10_191 : Int32) (v11_191 : Int32) (v12_191 : Int32), (JI (x3, x4, x5) (t9 + 1) f9 S191) → (IM (x3, x4, x5) x6 S191 v7_191 v8_191 v10_191) → (v11_191 = nI (cnt (ob6 2 1 S191) (k94 + 1))) → (v12_191 = nI (cnt (ob6 1 2 S191) (k94 + 1))) → (k94 < x3) → f_L_isMinute_b191 x3 x4 x5 x6 t9 f9 (f_L_isMinute_h94 x3 x4 x5 x6 t9 f9 q94) k94 S191 v7_191 v8_191 v10_191 v11_191 v12_191 = F → ∀ (H : Heap) (locs : List Loc) (ls : Array Slot), wC G a S191 H → va_S (wA 21 a s.heap.size) s.heap H locs → lv_has ls 16 [(0, .ref (a 0)), (1, .ref (a 20)), (2, .int (nI x3)), (4, .int (nI x5)), (5, .int x6), (7, .int v7_191), (8, .int v8_191), (10, .int v10_191), (11, .int v11_191), (12, .int v12_191), (14, .int (nI k94))] → W p l e ({ frames := 6, cells := 0, slots := 0, locals := 141 } : Room) s m ([.ref (a 0), .ref (a 20), .int (nI x3), .int (nI x4), .int (nI x5), .int x6] : List Value).toArray below meth c H locs 0 0 (gQz below G (CW G.2 a) 21 a F ([.ref (a 0), .ref (a 20), .int (nI x3), .int (nI x4), .int (nI x5), .int x6] : List Value).toArray s) (F0 m 191 ls [.int 1]) := by
                    intro S191 v7_191 v8_191 v10_191 v11_191 v12_191 hI hM hbk hg hkb94 h H locs ls hP hS hl
                    rewrite [f_L_isMinute_b191] at h
                    refine lv_istore (lv' := [(13, .int 1), (0, .ref (a 0)), (1, .ref (a 20)), (2, .int (nI x3)), (4, .int (nI x5)), (5, .int x6), (7, .int v7_191), (8, .int v8_191), (10, .int v10_191), (11, .int v11_191), (12, .int v12_191), (14, .int (nI k94))]) hx hb dL_isMinute_191 hl (by decide) rfl (fun ls hl => ?_)
                    refine lv_iinc (k := 11) (v := nI (k94 + 1)) (lv' := [(14, .int (nI (k94 + 1))), (13, .int 1), (0, .ref (a 0)), (1, .ref (a 20)), (2, .int (nI x3)), (4, .int (nI x5)), (5, .int x6), (7, .int v7_191), (8, .int v8_191), (10, .int v10_191), (11, .int v11_191), (12, .int v12_191)]) hx hb dL_isMinute_193 hl rfl (nI_inc _) (by decide) rfl (fun ls hl => ?_)
                    refine lv_goto (tgt := 94) hx hb dL_isMinute_196 (by decide) ?_
                    exact ih94 (k94 + 1) S191 v7_191 v8_191 v10_191 v11_191 v12_191 hI hM (by first | rfl | exact hbk) (by first | rfl | exact hg) (by omega) (by omega) h _ _ _ hP hS (lv_sub hl [2, 3, 4, 5, 6, 7, 8, 9, 10, 11, 1, 0] rfl)
                  have J173 : ∀ (S173 : CS) (v7_173 : Int32) (v8_173 : Int32) (v10_173 : Int32) (v11_173 : Int32) (v12_173 : Int32) (v15_173 : Int32) (s0_173 : Int32), (isB s0_173) → (JI (x3, x4, x5) (t9 + 1) f9 S173) → (IM (x3, x4, x5) x6 S173 v7_173 v8_173 v10_173) → (v11_173 = nI (cnt (ob6 2 1 S173) (k94 + 1))) → (v12_173 = nI (cnt (ob6 1 2 S173) (k94 + 1))) → (v15_173 = S173.2.1 k94 3) → (s0_173 = (if S173.2.1 k94 6 = 0 then 1 else 0)) → (k94 < x3) → f_L_isMinute_b173 x3 x4 x5 x6 t9 f9 (f_L_isMinute_h94 x3 x4 x5 x6 t9 f9 q94) k94 S173 v7_173 v8_173 v10_173 v11_173 v12_173 v15_173 s0_173 = F → ∀ (H : Heap) (locs : List Loc) (ls : Array Slot), wC G a S173 H → va_S (wA 21 a s.heap.size) s.heap H locs → lv_has ls 16 [(0, .ref (a 0)), (1, .ref (a 20)), (2, .int (nI x3)), (4, .int (nI x5)), (5, .int x6), (7, .int v7_173), (8, .int v8_173), (10, .int v10_173), (11, .int v11_173), (12, .int v12_173), (14, .int (nI k94)), (15, .int v15_173)] → W p l e ({ frames := 6, cells := 0, slots := 0, locals := 141 } : Room) s m ([.ref (a 0), .ref (a 20), .int (nI x3), .int (nI x4), .int (nI x5), .int x6] : List Value).toArray below meth c H locs 0 0 (gQz below G (CW G.2 a) 21 a F ([.ref (a 0), .ref (a 20), .int (nI x3), .int (nI x4), .int (nI x5), .int x6] : List Value).toArray s) (F0 m 173 ls [.int s0_173]) := by
                    intro S173 v7_173 v8_173 v10_173 v11_173 v12_173 v15_173 s0_173 hbs0_173 hI hM hbk hg h15 hz hkb94 h H locs ls hP hS hl
                    have J183 : ∀ (S183 : CS) (v7_183 : Int32) (v8_183 : Int32) (v10_183 : Int32) (v11_183 : Int32) (v12_183 : Int32) (s0_183 : Int32) (s1_183 : Int32), (isB s0_183) → (isB s1_183) → (JI (x3, x4, x5) (t9 + 1) f9 S183) → (IM (x3, x4, x5) x6 S183 v7_183 v8_183 v10_183) → (v11_183 = nI (cnt (ob6 2 1 S183) (k94 + 1))) → (v12_183 = nI (cnt (ob6 1 2 S183) (k94 + 1))) → (s0_183 = s1_183) → (k94 < x3) → f_L_isMinute_b183 x3 x4 x5 x6 t9 f9 (f_L_isMinute_h94 x3 x4 x5 x6 t9 f9 q94) k94 S183 v7_183 v8_183 v10_183 v11_183 v12_183 s0_183 s1_183 = F → ∀ (H : Heap) (locs : List Loc) (ls : Array Slot), wC G a S183 H → va_S (wA 21 a s.heap.size) s.heap H locs → lv_has ls 16 [(0, .ref (a 0)), (1, .ref (a 20)), (2, .int (nI x3)), (4, .int (nI x5)), (5, .int x6), (7, .int v7_183), (8, .int v8_183), (10, .int v10_183), (11, .int v11_183), (12, .int v12_183), (14, .int (nI k94))] → W p l e ({ frames := 6, cells := 0, slots := 0, locals := 141 } : Room) s m ([.ref (a 0), .ref (a 20), .int (nI x3), .int (nI x4), .int (nI x5), .int x6] : List Value).toArray below meth c H locs 0 0 (gQz below G (CW G.2 a) 21 a F ([.ref (a 0), .ref (a 20), .int (nI x3), .int (nI x4), .int (nI x5), .int x6] : List Value).toArray s) (F0 m 183 ls [.int s1_183, .int s0_183]) := by
                      intro S183 v7_183 v8_183 v10_183 v11_183 v12_183 s0_183 s1_183 hbs0_183 hbs1_183 hI hM hbk hg he hkb94 h H locs ls hP hS hl
                      rewrite [f_L_isMinute_b183] at h
                      refine lv_icmp_ne (tgt := 190) hx hb dL_isMinute_183 (by decide) (fun c183 => ?_) (fun c183 => ?_)
                      · exact absurd he c183
                      · refine lv_iconst (v := 1) hx hb dL_isMinute_186 (by decide) ?_
                        refine lv_goto (tgt := 191) hx hb dL_isMinute_187 (by decide) ?_
                        exact J191 S183 v7_183 v8_183 v10_183 v11_183 v12_183 hI hM hbk hg (by omega) h _ _ _ hP hS (lv_sub hl [0, 1, 2, 3, 4, 5, 6, 7, 8, 9, 10] rfl)
                    rewrite [f_L_isMinute_b173] at h
                    refine lv_iload hx hb dL_isMinute_173 (lv_at hl 11 rfl) ?_
                    refine lv_if_ne (tgt := 182) hx hb dL_isMinute_175 (by decide) (fun c175 => ?_) (fun c175 => ?_)
                    · rewrite [if_neg c175] at h
                      refine lv_iconst (v := 0) hx hb dL_isMinute_182 (by decide) ?_
                      exact J183 S173 v7_173 v8_173 v10_173 v11_173 v12_173 s0_173 0 hbs0_173 isB_0 hI hM hbk hg (by rw [hz]; first | rw [if_pos ((im_z hM (show k94 < x3 by omega)).mpr (h15.symm.trans c175))] | rw [if_neg (fun z => c175 (h15.trans ((im_z hM (show k94 < x3 by omega)).mp z)))]) (by omega) h _ _ _ hP hS (lv_sub hl [0, 1, 2, 3, 4, 5, 6, 7, 8, 9, 10] rfl)
                    · rewrite [if_pos c175] at h
                      refine lv_iconst (v := 1) hx hb dL_isMinute_178 (by decide) ?_
                      refine lv_goto (tgt := 183) hx hb dL_isMinute_179 (by decide) ?_
                      exact J183 S173 v7_173 v8_173 v10_173 v11_173 v12_173 s0_173 1 hbs0_173 isB_1 hI hM hbk hg (by rw [hz]; first | rw [if_pos ((im_z hM (show k94 < x3 by omega)).mpr (h15.symm.trans c175))] | rw [if_neg (fun z => c175 (h15.trans ((im_z hM (show k94 < x3 by omega)).mp z)))]) (by omega) h _ _ _ hP hS (lv_sub hl [0, 1, 2, 3, 4, 5, 6, 7, 8, 9, 10] rfl)
                  rewrite [f_L_isMinute_b153] at h
                  refine lv_iadd hx hb dL_isMinute_153 ?_
                  refine lv_istore (lv' := [(12, .int (s0_153 + s1_153)), (0, .ref (a 0)), (1, .ref (a 20)), (2, .int (nI x3)), (4, .int (nI x5)), (5, .int x6), (7, .int v7_153), (8, .int v8_153), (10, .int v10_153), (11, .int v11_153), (13, .int 1), (14, .int (nI k94)), (15, .int v15_153)]) hx hb dL_isMinute_154 hl (by decide) rfl (fun ls hl => ?_)
                  refine lv_iload hx hb dL_isMinute_156 (lv_at hl 10 rfl) ?_
                  refine lv_if_eq (tgt := 190) hx hb dL_isMinute_158 (by decide) (fun c158 => ?_) (fun c158 => ?_)
                  · exact absurd c158 (by decide)
                  · refine lv_aload_n hx hb dL_isMinute_161 rfl (lv_at hl 2 rfl) ?_
                    refine lv_iload hx hb dL_isMinute_162 (lv_at hl 11 rfl) ?_
                    refine chld hx hb hK hP (k := k94) (by omega) dL_isMinute_164 ?_
                    refine lv_if_ne (tgt := 172) hx hb dL_isMinute_165 (by decide) (fun c165 => ?_) (fun c165 => ?_)
                    · rewrite [if_neg c165] at h
                      refine lv_iconst (v := 0) hx hb dL_isMinute_172 (by decide) ?_
                      exact J173 S153 v7_153 v8_153 v10_153 v11_153 (s0_153 + s1_153) v15_153 0 isB_0 hI hM hbk (cnt_st hg (by omega) _ ob6_iff hs) (by first | rfl | exact h15) (by first | rw [if_pos c165] | rw [if_neg c165]) (by omega) h _ _ _ hP hS (lv_sub hl [1, 2, 3, 4, 5, 6, 7, 8, 9, 0, 11, 12] rfl)
                    · rewrite [if_pos c165] at h
                      refine lv_iconst (v := 1) hx hb dL_isMinute_168 (by decide) ?_
                      refine lv_goto (tgt := 173) hx hb dL_isMinute_169 (by decide) ?_
                      exact J173 S153 v7_153 v8_153 v10_153 v11_153 (s0_153 + s1_153) v15_153 1 isB_1 hI hM hbk (cnt_st hg (by omega) _ ob6_iff hs) (by first | rfl | exact h15) (by first | rw [if_pos c165] | rw [if_neg c165]) (by omega) h _ _ _ hP hS (lv_sub hl [1, 2, 3, 4, 5, 6, 7, 8, 9, 0, 11, 12] rfl)
                have J152 : ∀ (S152 : CS) (v7_152 : Int32) (v8_152 : Int32) (v10_152 : Int32) (v11_152 : Int32) (v15_152 : Int32) (s0_152 : Int32), (JI (x3, x4, x5) (t9 + 1) f9 S152) → (IM (x3, x4, x5) x6 S152 v7_152 v8_152 v10_152) → (v11_152 = nI (cnt (ob6 2 1 S152) (k94 + 1))) → (s0_152 = nI (cnt (ob6 1 2 S152) k94)) → (v15_152 = S152.2.1 k94 3) → (¬ (S152.2.1 k94 6 = 1 ∧ S152.2.1 k94 3 = 2)) → (k94 < x3) → f_L_isMinute_b152 x3 x4 x5 x6 t9 f9 (f_L_isMinute_h94 x3 x4 x5 x6 t9 f9 q94) k94 S152 v7_152 v8_152 v10_152 v11_152 v15_152 s0_152 = F → ∀ (H : Heap) (locs : List Loc) (ls : Array Slot), wC G a S152 H → va_S (wA 21 a s.heap.size) s.heap H locs → lv_has ls 16 [(0, .ref (a 0)), (1, .ref (a 20)), (2, .int (nI x3)), (4, .int (nI x5)), (5, .int x6), (7, .int v7_152), (8, .int v8_152), (10, .int v10_152), (11, .int v11_152), (13, .int 1), (14, .int (nI k94)), (15, .int v15_152)] → W p l e ({ frames := 6, cells := 0, slots := 0, locals := 141 } : Room) s m ([.ref (a 0), .ref (a 20), .int (nI x3), .int (nI x4), .int (nI x5), .int x6] : List Value).toArray below meth c H locs 0 0 (gQz below G (CW G.2 a) 21 a F ([.ref (a 0), .ref (a 20), .int (nI x3), .int (nI x4), .int (nI x5), .int x6] : List Value).toArray s) (F0 m 152 ls [.int s0_152]) := by
                  intro S152 v7_152 v8_152 v10_152 v11_152 v15_152 s0_152 hI hM hbk hg h15 hn hkb94 h H locs ls hP hS hl
                  rewrite [f_L_isMinute_b152] at h
                  refine lv_iconst (v := 0) hx hb dL_isMinute_152 (by decide) ?_
                  exact J153 S152 v7_152 v8_152 v10_152 v11_152 v15_152 s0_152 0 isB_0 hI hM (by first | exact hbk | exact cnt_st hbk (by omega) _ ob6_iff hs) hg (by first | rfl | exact h15) (by first | rw [if_neg hn] | rw [if_pos ⟨c139, h15.symm.trans c145⟩]) (by omega) h _ _ _ hP hS (lv_sub hl [0, 1, 2, 3, 4, 5, 6, 7, 8, 9, 10, 11] rfl)
                rewrite [f_L_isMinute_b129] at h
                refine lv_iadd hx hb dL_isMinute_129 ?_
                refine lv_istore (lv' := [(11, .int (s0_129 + s1_129)), (0, .ref (a 0)), (1, .ref (a 20)), (2, .int (nI x3)), (4, .int (nI x5)), (5, .int x6), (7, .int v7_129), (8, .int v8_129), (10, .int v10_129), (12, .int v12_129), (13, .int 1), (14, .int (nI k94)), (15, .int v15_129)]) hx hb dL_isMinute_130 hl (by decide) rfl (fun ls hl => ?_)
                refine lv_iload hx hb dL_isMinute_132 (lv_at hl 9 rfl) ?_
                refine lv_aload_n hx hb dL_isMinute_134 rfl (lv_at hl 2 rfl) ?_
                refine lv_iload hx hb dL_isMinute_135 (lv_at hl 11 rfl) ?_
                refine chld hx hb hK hP (k := k94) (by omega) dL_isMinute_137 ?_
                refine lv_iconst (v := 1) hx hb dL_isMinute_138 (by decide) ?_
                refine lv_icmp_ne (tgt := 152) hx hb dL_isMinute_139 (by decide) (fun c139 => ?_) (fun c139 => ?_)
                · rewrite [if_neg c139] at h
                  exact J152 S129 v7_129 v8_129 v10_129 (s0_129 + s1_129) v15_129 v12_129 hI hM (cnt_st hbk (by omega) _ ob6_iff hs) hg (by first | rfl | exact h15) (by first | exact fun z => c139 z.1 | exact fun z => c145 (h15.trans z.2)) (by omega) h _ _ _ hP hS (lv_sub hl [1, 2, 3, 4, 5, 6, 7, 8, 0, 10, 11, 12] rfl)
                · rewrite [if_pos c139] at h
                  refine lv_iload hx hb dL_isMinute_142 (lv_at hl 12 rfl) ?_
                  refine lv_iconst (v := 2) hx hb dL_isMinute_144 (by decide) ?_
                  refine lv_icmp_ne (tgt := 152) hx hb dL_isMinute_145 (by decide) (fun c145 => ?_) (fun c145 => ?_)
                  · rewrite [if_neg c145] at h
                    exact J152 S129 v7_129 v8_129 v10_129 (s0_129 + s1_129) v15_129 v12_129 hI hM (cnt_st hbk (by omega) _ ob6_iff hs) hg (by first | rfl | exact h15) (by first | exact fun z => c139 z.1 | exact fun z => c145 (h15.trans z.2)) (by omega) h _ _ _ hP hS (lv_sub hl [1, 2, 3, 4, 5, 6, 7, 8, 0, 10, 11, 12] rfl)
                  · rewrite [if_pos c145] at h
                    refine lv_iconst (v := 1) hx hb dL_isMinute_148 (by decide) ?_
                    refine lv_goto (tgt := 153) hx hb dL_isMinute_149 (by decide) ?_
                    exact J153 S129 v7_129 v8_129 v10_129 (s0_129 + s1_129) v15_129 v12_129 1 isB_1 hI hM (by first | exact hbk | exact cnt_st hbk (by omega) _ ob6_iff hs) hg (by first | rfl | exact h15) (by first | rw [if_neg hn] | rw [if_pos ⟨c139, h15.symm.trans c145⟩]) (by omega) h _ _ _ hP hS (lv_sub hl [1, 2, 3, 4, 5, 6, 7, 8, 0, 10, 11, 12] rfl)
              have J128 : ∀ (S128 : CS) (v7_128 : Int32) (v8_128 : Int32) (v10_128 : Int32) (v12_128 : Int32) (v15_128 : Int32) (s0_128 : Int32), (JI (x3, x4, x5) (t9 + 1) f9 S128) → (IM (x3, x4, x5) x6 S128 v7_128 v8_128 v10_128) → (s0_128 = nI (cnt (ob6 2 1 S128) k94)) → (v12_128 = nI (cnt (ob6 1 2 S128) k94)) → (v15_128 = S128.2.1 k94 3) → (¬ (S128.2.1 k94 6 = 2 ∧ S128.2.1 k94 3 = 1)) → (k94 < x3) → f_L_isMinute_b128 x3 x4 x5 x6 t9 f9 (f_L_isMinute_h94 x3 x4 x5 x6 t9 f9 q94) k94 S128 v7_128 v8_128 v10_128 v12_128 v15_128 s0_128 = F → ∀ (H : Heap) (locs : List Loc) (ls : Array Slot), wC G a S128 H → va_S (wA 21 a s.heap.size) s.heap H locs → lv_has ls 16 [(0, .ref (a 0)), (1, .ref (a 20)), (2, .int (nI x3)), (4, .int (nI x5)), (5, .int x6), (7, .int v7_128), (8, .int v8_128), (10, .int v10_128), (12, .int v12_128), (13, .int 1), (14, .int (nI k94)), (15, .int v15_128)] → W p l e ({ frames := 6, cells := 0, slots := 0, locals := 141 } : Room) s m ([.ref (a 0), .ref (a 20), .int (nI x3), .int (nI x4), .int (nI x5), .int x6] : List Value).toArray below meth c H locs 0 0 (gQz below G (CW G.2 a) 21 a F ([.ref (a 0), .ref (a 20), .int (nI x3), .int (nI x4), .int (nI x5), .int x6] : List Value).toArray s) (F0 m 128 ls [.int s0_128]) := by
                intro S128 v7_128 v8_128 v10_128 v12_128 v15_128 s0_128 hI hM hbk hg h15 hn hkb94 h H locs ls hP hS hl
                rewrite [f_L_isMinute_b128] at h
                refine lv_iconst (v := 0) hx hb dL_isMinute_128 (by decide) ?_
                exact J129 S128 v7_128 v8_128 v10_128 v12_128 v15_128 s0_128 0 isB_0 hI hM hbk hg (by first | rfl | exact h15) (by first | rw [if_neg hn] | rw [if_pos ⟨c115, c121⟩]) (by omega) h _ _ _ hP hS (lv_sub hl [0, 1, 2, 3, 4, 5, 6, 7, 8, 9, 10, 11] rfl)
              have J248 : ∀ (S248 : CS) (v6_248 : Int32) (v7_248 : Int32) (v8_248 : Int32) (v11_248 : Int32), (¬ x6 = 0 → S248.1 12 = v7_248 + dem S248) → (x6 = 0 → S248.1 13 + S248.1 14 = v8_248 + dem S248 ∧ S248.1 12 = v7_248) → (x5 = 0 → x6 = 0 → v11_248 = 0) → (v6_248 = dem S248) → f_L_isMinute_b248 x3 x4 x5 x6 t9 f9 S248 v6_248 v7_248 v8_248 v11_248 = F → ∀ (H : Heap) (locs : List Loc) (ls : Array Slot), wC G a S248 H → va_S (wA 21 a s.heap.size) s.heap H locs → lv_has ls 16 [(0, .ref (a 0)), (4, .int (nI x5)), (5, .int x6), (6, .int v6_248), (7, .int v7_248), (8, .int v8_248), (11, .int v11_248)] → W p l e ({ frames := 6, cells := 0, slots := 0, locals := 141 } : Room) s m ([.ref (a 0), .ref (a 20), .int (nI x3), .int (nI x4), .int (nI x5), .int x6] : List Value).toArray below meth c H locs 0 0 (gQz below G (CW G.2 a) 21 a F ([.ref (a 0), .ref (a 20), .int (nI x3), .int (nI x4), .int (nI x5), .int x6] : List Value).toArray s) (F0 m 248 ls [.int 1]) := by
                intro S248 v6_248 v7_248 v8_248 v11_248 hU hD hz11 h6d h H locs ls hP hS hl
                have J321 : ∀ (S321 : CS), f_L_isMinute_b321 x3 x4 x5 x6 t9 f9 S321 = F → ∀ (H : Heap) (locs : List Loc) (ls : Array Slot), wC G a S321 H → va_S (wA 21 a s.heap.size) s.heap H locs → lv_has ls 16 [] → W p l e ({ frames := 6, cells := 0, slots := 0, locals := 141 } : Room) s m ([.ref (a 0), .ref (a 20), .int (nI x3), .int (nI x4), .int (nI x5), .int x6] : List Value).toArray below meth c H locs 0 0 (gQz below G (CW G.2 a) 21 a F ([.ref (a 0), .ref (a 20), .int (nI x3), .int (nI x4), .int (nI x5), .int x6] : List Value).toArray s) (F0 m 321 ls [.int 1]) := by
                  intro S321 h H locs ls hP hS hl
                  rewrite [f_L_isMinute_b321] at h
                  exact gRz (wf := CW G.2 a) (S := S321) hx hb hr hlocks isB_1 hP hS h dL_isMinute_321
                have J301 : ∀ (S301 : CS) (v11_301 : Int32), (x5 = 0 → x6 = 0 → v11_301 = 0) → f_L_isMinute_b301 x3 x4 x5 x6 t9 f9 S301 v11_301 = F → ∀ (H : Heap) (locs : List Loc) (ls : Array Slot), wC G a S301 H → va_S (wA 21 a s.heap.size) s.heap H locs → lv_has ls 16 [(4, .int (nI x5)), (5, .int x6), (11, .int v11_301)] → W p l e ({ frames := 6, cells := 0, slots := 0, locals := 141 } : Room) s m ([.ref (a 0), .ref (a 20), .int (nI x3), .int (nI x4), .int (nI x5), .int x6] : List Value).toArray below meth c H locs 0 0 (gQz below G (CW G.2 a) 21 a F ([.ref (a 0), .ref (a 20), .int (nI x3), .int (nI x4), .int (nI x5), .int x6] : List Value).toArray s) (F0 m 301 ls []) := by
                  intro S301 v11_301 hz11 h H locs ls hP hS hl
                  have J316 : ∀ (S316 : CS), f_L_isMinute_b316 x3 x4 x5 x6 t9 f9 S316 = F → ∀ (H : Heap) (locs : List Loc) (ls : Array Slot), wC G a S316 H → va_S (wA 21 a s.heap.size) s.heap H locs → lv_has ls 16 [] → W p l e ({ frames := 6, cells := 0, slots := 0, locals := 141 } : Room) s m ([.ref (a 0), .ref (a 20), .int (nI x3), .int (nI x4), .int (nI x5), .int x6] : List Value).toArray below meth c H locs 0 0 (gQz below G (CW G.2 a) 21 a F ([.ref (a 0), .ref (a 20), .int (nI x3), .int (nI x4), .int (nI x5), .int x6] : List Value).toArray s) (F0 m 316 ls []) := by
                    intro S316 h H locs ls hP hS hl
                    rewrite [f_L_isMinute_b316] at h
                    refine lv_iconst (v := 1) hx hb dL_isMinute_316 (by decide) ?_
                    refine lv_goto (tgt := 321) hx hb dL_isMinute_317 (by decide) ?_
                    exact J321 S316 h _ _ _ hP hS (lv_sub hl [] rfl)
                  rewrite [f_L_isMinute_b301] at h
                  refine lv_iload hx hb dL_isMinute_301 (lv_at hl 0 rfl) ?_
                  refine lv_if_gt (tgt := 316) hx hb dL_isMinute_303 (by decide) (fun c303 => ?_) (fun c303 => ?_)
                  · rewrite [if_pos c303] at h
                    exact J316 S301 h _ _ _ hP hS (lv_sub hl [] rfl)
                  · rewrite [if_neg c303] at h
                    refine lv_iload hx hb dL_isMinute_306 (lv_at hl 1 rfl) ?_
                    refine lv_if_ne (tgt := 316) hx hb dL_isMinute_308 (by decide) (fun c308 => ?_) (fun c308 => ?_)
                    · rewrite [if_neg c308] at h
                      exact J316 S301 h _ _ _ hP hS (lv_sub hl [] rfl)
                    · rewrite [if_pos c308] at h
                      refine lv_iload hx hb dL_isMinute_311 (lv_at hl 2 rfl) ?_
                      refine lv_if_ne (tgt := 320) hx hb dL_isMinute_313 (by decide) (fun c313 => ?_) (fun c313 => ?_)
                      · exact absurd (hz11 (x5_0 hx5 c303) c308) c313
                      · exact J316 S301 h _ _ _ hP hS (lv_sub hl [] rfl)
                rewrite [f_L_isMinute_b248] at h
                refine lv_istore (lv' := [(13, .int 1), (0, .ref (a 0)), (4, .int (nI x5)), (5, .int x6), (6, .int v6_248), (7, .int v7_248), (8, .int v8_248), (11, .int v11_248)]) hx hb dL_isMinute_248 hl (by decide) rfl (fun ls hl => ?_)
                refine lv_iload hx hb dL_isMinute_250 (lv_at hl 0 rfl) ?_
                refine lv_if_eq (tgt := 320) hx hb dL_isMinute_252 (by decide) (fun c252 => ?_) (fun c252 => ?_)
                · exact absurd c252 (by decide)
                · refine lv_iload hx hb dL_isMinute_255 (lv_at hl 3 rfl) ?_
                  refine lv_if_eq (tgt := 275) hx hb dL_isMinute_257 (by decide) (fun c257 => ?_) (fun c257 => ?_)
                  · rewrite [if_pos c257] at h
                    refine lv_aload_n hx hb dL_isMinute_275 rfl (lv_at hl 1 rfl) ?_
                    refine gcVi0 (wf := CW G.2 a) (N := 21) (ad := a) (As := []) (rest := []) (S := S248) (v := S248.1 13) (S' := S248) ⟨hx, hb, hml, hown, hts⟩ hK hP hS (c_X3_fromGenerators l G a ha  S248 _) (cwV 0 hts gL_isMinute_X3_fromGenerators rfl rfl rfl (by decide +kernel) ⟨Nat.le_of_ble_eq_true rfl, Nat.le_of_ble_eq_true rfl⟩) (crM hK hP) rfl hl.1 rfl (Nat.le_of_ble_eq_true rfl) dL_isMinute_276 ⟨Nat.le_of_ble_eq_true rfl, Nat.le_of_ble_eq_true rfl⟩ (fun H locs hP hS => ?_)
                    refine lv_aload_n hx hb dL_isMinute_279 rfl (lv_at hl 1 rfl) ?_
                    refine gcVi0 (wf := CW G.2 a) (N := 21) (ad := a) (As := []) (rest := [.int (S248.1 13)]) (S := S248) (v := S248.1 14) (S' := S248) ⟨hx, hb, hml, hown, hts⟩ hK hP hS (c_X3_fromBatteries l G a ha  S248 _) (cwV 0 hts gL_isMinute_X3_fromBatteries rfl rfl rfl (by decide +kernel) ⟨Nat.le_of_ble_eq_true rfl, Nat.le_of_ble_eq_true rfl⟩) (crM hK hP) rfl hl.1 rfl (Nat.le_of_ble_eq_true rfl) dL_isMinute_280 ⟨Nat.le_of_ble_eq_true rfl, Nat.le_of_ble_eq_true rfl⟩ (fun H locs hP hS => ?_)
                    refine lv_iadd hx hb dL_isMinute_283 ?_
                    refine lv_iload hx hb dL_isMinute_284 (lv_at hl 6 rfl) ?_
                    refine lv_iload hx hb dL_isMinute_286 (lv_at hl 4 rfl) ?_
                    refine lv_iadd hx hb dL_isMinute_288 ?_
                    refine lv_icmp_ne (tgt := 320) hx hb dL_isMinute_289 (by decide) (fun c289 => ?_) (fun c289 => ?_)
                    · exact absurd ((hD c257).1.trans (by rw [h6d])) c289
                    · refine lv_aload_n hx hb dL_isMinute_292 rfl (lv_at hl 1 rfl) ?_
                      refine gcVi0 (wf := CW G.2 a) (N := 21) (ad := a) (As := []) (rest := []) (S := S248) (v := S248.1 12) (S' := S248) ⟨hx, hb, hml, hown, hts⟩ hK hP hS (c_X3_fromMains l G a ha  S248 _) (cwV 0 hts gL_isMinute_X3_fromMains rfl rfl rfl (by decide +kernel) ⟨Nat.le_of_ble_eq_true rfl, Nat.le_of_ble_eq_true rfl⟩) (crM hK hP) rfl hl.1 rfl (Nat.le_of_ble_eq_true rfl) dL_isMinute_293 ⟨Nat.le_of_ble_eq_true rfl, Nat.le_of_ble_eq_true rfl⟩ (fun H locs hP hS => ?_)
                      refine lv_iload hx hb dL_isMinute_296 (lv_at hl 5 rfl) ?_
                      refine lv_icmp_ne (tgt := 320) hx hb dL_isMinute_298 (by decide) (fun c298 => ?_) (fun c298 => ?_)
                      · exact absurd (hD c257).2 c298
                      · exact J301 S248 v11_248 hz11 h _ _ _ hP hS (lv_sub hl [2, 3, 7] rfl)
                  · rewrite [if_neg c257] at h
                    refine lv_aload_n hx hb dL_isMinute_260 rfl (lv_at hl 1 rfl) ?_
                    refine gcVi0 (wf := CW G.2 a) (N := 21) (ad := a) (As := []) (rest := []) (S := S248) (v := S248.1 12) (S' := S248) ⟨hx, hb, hml, hown, hts⟩ hK hP hS (c_X3_fromMains l G a ha  S248 _) (cwV 0 hts gL_isMinute_X3_fromMains rfl rfl rfl (by decide +kernel) ⟨Nat.le_of_ble_eq_true rfl, Nat.le_of_ble_eq_true rfl⟩) (crM hK hP) rfl hl.1 rfl (Nat.le_of_ble_eq_true rfl) dL_isMinute_261 ⟨Nat.le_of_ble_eq_true rfl, Nat.le_of_ble_eq_true rfl⟩ (fun H locs hP hS => ?_)
                    refine lv_iload hx hb dL_isMinute_264 (lv_at hl 5 rfl) ?_
                    refine lv_iload hx hb dL_isMinute_266 (lv_at hl 4 rfl) ?_
                    refine lv_iadd hx hb dL_isMinute_268 ?_
                    refine lv_icmp_ne (tgt := 320) hx hb dL_isMinute_269 (by decide) (fun c269 => ?_) (fun c269 => ?_)
                    · exact absurd ((hU c257).trans (by rw [h6d])) c269
                    · refine lv_goto (tgt := 301) hx hb dL_isMinute_272 (by decide) ?_
                      exact J301 S248 v11_248 hz11 h _ _ _ hP hS (lv_sub hl [2, 3, 7] rfl)
              have J233 : ∀ (S233 : CS) (v6_233 : Int32) (v7_233 : Int32) (v8_233 : Int32) (v10_233 : Int32) (v11_233 : Int32), (JI (x3, x4, x5) (t9 + 1) f9 S233) → (IM (x3, x4, x5) x6 S233 v7_233 v8_233 v10_233) → (v11_233 = nI (cnt (ob6 2 1 S233) x3)) → (v6_233 = dem S233) → (True) → f_L_isMinute_b233 x3 x4 x5 x6 t9 f9 S233 v6_233 v7_233 v8_233 v10_233 v11_233 = F → ∀ (H : Heap) (locs : List Loc) (ls : Array Slot), wC G a S233 H → va_S (wA 21 a s.heap.size) s.heap H locs → lv_has ls 16 [(0, .ref (a 0)), (4, .int (nI x5)), (5, .int x6), (6, .int v6_233), (7, .int v7_233), (8, .int v8_233), (10, .int v10_233), (11, .int v11_233)] → W p l e ({ frames := 6, cells := 0, slots := 0, locals := 141 } : Room) s m ([.ref (a 0), .ref (a 20), .int (nI x3), .int (nI x4), .int (nI x5), .int x6] : List Value).toArray below meth c H locs 0 0 (gQz below G (CW G.2 a) 21 a F ([.ref (a 0), .ref (a 20), .int (nI x3), .int (nI x4), .int (nI x5), .int x6] : List Value).toArray s) (F0 m 233 ls []) := by
                intro S233 v6_233 v7_233 v8_233 v10_233 v11_233 hI hM hbk h6d hc h H locs ls hP hS hl
                have J243 : ∀ (S243 : CS) (v6_243 : Int32) (v7_243 : Int32) (v8_243 : Int32) (v11_243 : Int32), (¬ x6 = 0 → S243.1 12 = v7_243 + dem S243) → (x6 = 0 → S243.1 13 + S243.1 14 = v8_243 + dem S243 ∧ S243.1 12 = v7_243) → (x5 = 0 → x6 = 0 → v11_243 = 0) → (v6_243 = dem S243) → f_L_isMinute_b243 x3 x4 x5 x6 t9 f9 S243 v6_243 v7_243 v8_243 v11_243 = F → ∀ (H : Heap) (locs : List Loc) (ls : Array Slot), wC G a S243 H → va_S (wA 21 a s.heap.size) s.heap H locs → lv_has ls 16 [(0, .ref (a 0)), (4, .int (nI x5)), (5, .int x6), (6, .int v6_243), (7, .int v7_243), (8, .int v8_243), (11, .int v11_243)] → W p l e ({ frames := 6, cells := 0, slots := 0, locals := 141 } : Room) s m ([.ref (a 0), .ref (a 20), .int (nI x3), .int (nI x4), .int (nI x5), .int x6] : List Value).toArray below meth c H locs 0 0 (gQz below G (CW G.2 a) 21 a F ([.ref (a 0), .ref (a 20), .int (nI x3), .int (nI x4), .int (nI x5), .int x6] : List Value).toArray s) (F0 m 243 ls []) := by
                  intro S243 v6_243 v7_243 v8_243 v11_243 hU hD hz11 h6d h H locs ls hP hS hl
                  rewrite [f_L_isMinute_b243] at h
                  refine lv_iconst (v := 1) hx hb dL_isMinute_243 (by decide) ?_
                  refine lv_goto (tgt := 248) hx hb dL_isMinute_244 (by decide) ?_
                  exact J248 S243 v6_243 v7_243 v8_243 v11_243 hU hD hz11 h6d h _ _ _ hP hS (lv_sub hl [0, 1, 2, 3, 4, 5, 6] rfl)
                rewrite [f_L_isMinute_b233] at h
                refine lv_iload hx hb dL_isMinute_233 (lv_at hl 2 rfl) ?_
                refine lv_if_eq (tgt := 243) hx hb dL_isMinute_235 (by decide) (fun c235 => ?_) (fun c235 => ?_)
                · rewrite [if_pos c235] at h
                  exact J243 S233 v6_233 v7_233 v8_233 v11_233 (im_up hM) (im_dn hM) (fun y z => im_n hM hbk rfl hx5 (by rw [show (x3, x4, x5).2.2 = 0 from y]; exact fd_00) z) h6d h _ _ _ hP hS (lv_sub hl [0, 1, 2, 3, 4, 5, 7] rfl)
                · rewrite [if_neg c235] at h
                  refine lv_iload hx hb dL_isMinute_238 (lv_at hl 6 rfl) ?_
                  refine lv_if_ne (tgt := 247) hx hb dL_isMinute_240 (by decide) (fun c240 => ?_) (fun c240 => ?_)
                  · exact absurd (im_u hM c235) c240
                  · exact J243 S233 v6_233 v7_233 v8_233 v11_233 (im_up hM) (im_dn hM) (fun y z => im_n hM hbk rfl hx5 (by rw [show (x3, x4, x5).2.2 = 0 from y]; exact fd_00) z) h6d h _ _ _ hP hS (lv_sub hl [0, 1, 2, 3, 4, 5, 7] rfl)
              rewrite [f_L_isMinute_h94] at h
              refine lv_iload hx hb dL_isMinute_94 (lv_at hl 11 rfl) ?_
              refine lv_iload_n hx hb dL_isMinute_96 rfl (lv_at hl 2 rfl) ?_
              refine lv_icmp_ge (tgt := 199) hx hb dL_isMinute_97 (by decide) (fun c97 => ?_) (fun c97 => ?_)
              · have c97 : x3 ≤ k94 := (nI_leI (a := x3) (b := k94) (by omega) (by omega)).mp c97
                rewrite [if_pos c97] at h
                refine lv_aload_n hx hb dL_isMinute_199 rfl (lv_at hl 0 rfl) ?_
                refine gcVi0 (wf := CW G.2 a) (N := 21) (ad := a) (As := []) (rest := []) (S := S94) (v := dem S94) (S' := S94) ⟨hx, hb, hml, hown, hts⟩ hK hP hS (q_demand l G a ha  S94 _) (cwV 0 hts gL_isMinute_X3_demand rfl rfl rfl (by decide +kernel) ⟨Nat.le_of_ble_eq_true rfl, Nat.le_of_ble_eq_true rfl⟩) (crM hK hP) rfl hl.1 rfl (Nat.le_of_ble_eq_true rfl) dL_isMinute_200 ⟨Nat.le_of_ble_eq_true rfl, Nat.le_of_ble_eq_true rfl⟩ (fun H locs hP hS => ?_)
                refine lv_istore (lv' := [(6, .int (dem S94)), (0, .ref (a 0)), (1, .ref (a 20)), (2, .int (nI x3)), (4, .int (nI x5)), (5, .int x6), (7, .int v7_94), (8, .int v8_94), (10, .int v10_94), (11, .int v11_94), (12, .int v12_94), (13, .int 1), (14, .int (nI k94))]) hx hb dL_isMinute_203 hl (by decide) rfl (fun ls hl => ?_)
                refine lv_iload hx hb dL_isMinute_205 (lv_at hl 11 rfl) ?_
                refine lv_if_eq (tgt := 247) hx hb dL_isMinute_207 (by decide) (fun c207 => ?_) (fun c207 => ?_)
                · exact absurd c207 (by decide)
                · refine lv_iload hx hb dL_isMinute_210 (lv_at hl 10 rfl) ?_
                  refine lv_iload hx hb dL_isMinute_212 (lv_at hl 8 rfl) ?_
                  refine lv_icmp_ne (tgt := 247) hx hb dL_isMinute_214 (by decide) (fun c214 => ?_) (fun c214 => ?_)
                  · exact absurd (im_g hM hg (show k94 = x3 by omega)) c214
                  · refine lv_iload hx hb dL_isMinute_217 (lv_at hl 9 rfl) ?_
                    refine lv_iconst (v := 1) hx hb dL_isMinute_219 (by decide) ?_
                    refine lv_icmp_gt (tgt := 247) hx hb dL_isMinute_220 (by decide) (fun c220 => ?_) (fun c220 => ?_)
                    · exact absurd c220 (im_b1 hM hbk (show k94 = x3 by omega))
                    · refine lv_iload hx hb dL_isMinute_223 (lv_at hl 9 rfl) ?_
                      refine lv_if_eq (tgt := 233) hx hb dL_isMinute_225 (by decide) (fun c225 => ?_) (fun c225 => ?_)
                      · rewrite [if_pos c225] at h
                        exact J233 S94 (dem S94) v7_94 v8_94 v10_94 v11_94 hI hM (by first | exact hbk | (have e9 : k94 = x3 := (by omega); rw [← e9]; exact hbk)) rfl trivial h _ _ _ hP hS (lv_sub hl [1, 4, 5, 0, 6, 7, 8, 9] rfl)
                      · rewrite [if_neg c225] at h
                        refine lv_iload hx hb dL_isMinute_228 (lv_at hl 8 rfl) ?_
                        refine lv_if_ne (tgt := 247) hx hb dL_isMinute_230 (by decide) (fun c230 => ?_) (fun c230 => ?_)
                        · exact absurd (im_b0 hM hbk (show k94 = x3 by omega) c225) c230
                        · exact J233 S94 (dem S94) v7_94 v8_94 v10_94 v11_94 hI hM (by first | exact hbk | (have e9 : k94 = x3 := (by omega); rw [← e9]; exact hbk)) rfl trivial h _ _ _ hP hS (lv_sub hl [1, 4, 5, 0, 6, 7, 8, 9] rfl)
              · have c97 : ¬ x3 ≤ k94 := fun z => c97 ((nI_leI (a := x3) (b := k94) (by omega) (by omega)).mpr z)
                rewrite [if_neg c97] at h
                refine lv_aload_n hx hb dL_isMinute_100 rfl (lv_at hl 0 rfl) ?_
                refine lv_iload hx hb dL_isMinute_101 (lv_at hl 11 rfl) ?_
                refine gcVi0 (wf := CW G.2 a) (N := 21) (ad := a) (As := [.int (nI k94)]) (rest := []) (S := S94) (v := S94.2.1 k94 3) (S' := S94) ⟨hx, hb, hml, hown, hts⟩ hK hP hS (c_X3_stateOf l G a ha k94 (by omega) S94 ⟨x3, by omega, hx3, hI.1.1.1⟩ _) (cwV 1 hts gL_isMinute_X3_stateOf rfl rfl rfl (by decide +kernel) ⟨Nat.le_of_ble_eq_true rfl, Nat.le_of_ble_eq_true rfl⟩) (crM hK hP) rfl hl.1 rfl (Nat.le_of_ble_eq_true rfl) dL_isMinute_103 ⟨Nat.le_of_ble_eq_true rfl, Nat.le_of_ble_eq_true rfl⟩ (fun H locs hP hS => ?_)
                refine lv_istore (lv' := [(15, .int (S94.2.1 k94 3)), (0, .ref (a 0)), (1, .ref (a 20)), (2, .int (nI x3)), (4, .int (nI x5)), (5, .int x6), (7, .int v7_94), (8, .int v8_94), (10, .int v10_94), (11, .int v11_94), (12, .int v12_94), (13, .int 1), (14, .int (nI k94))]) hx hb dL_isMinute_106 hl (by decide) rfl (fun ls hl => ?_)
                refine lv_iload hx hb dL_isMinute_108 (lv_at hl 9 rfl) ?_
                refine lv_aload_n hx hb dL_isMinute_110 rfl (lv_at hl 2 rfl) ?_
                refine lv_iload hx hb dL_isMinute_111 (lv_at hl 12 rfl) ?_
                refine chld hx hb hK hP (k := k94) (by omega) dL_isMinute_113 ?_
                refine lv_iconst (v := 2) hx hb dL_isMinute_114 (by decide) ?_
                refine lv_icmp_ne (tgt := 128) hx hb dL_isMinute_115 (by decide) (fun c115 => ?_) (fun c115 => ?_)
                · rewrite [if_neg c115] at h
                  exact J128 S94 v7_94 v8_94 v10_94 v12_94 (S94.2.1 k94 3) v11_94 hI hM hbk hg (by first | rfl | exact h15) (by first | exact fun z => c115 z.1 | exact fun z => c121 z.2) (by omega) h _ _ _ hP hS (lv_sub hl [1, 2, 3, 4, 5, 6, 7, 8, 10, 11, 12, 0] rfl)
                · rewrite [if_pos c115] at h
                  refine lv_iload hx hb dL_isMinute_118 (lv_at hl 0 rfl) ?_
                  refine lv_iconst (v := 1) hx hb dL_isMinute_120 (by decide) ?_
                  refine lv_icmp_ne (tgt := 128) hx hb dL_isMinute_121 (by decide) (fun c121 => ?_) (fun c121 => ?_)
                  · rewrite [if_neg c121] at h
                    exact J128 S94 v7_94 v8_94 v10_94 v12_94 (S94.2.1 k94 3) v11_94 hI hM hbk hg (by first | rfl | exact h15) (by first | exact fun z => c115 z.1 | exact fun z => c121 z.2) (by omega) h _ _ _ hP hS (lv_sub hl [1, 2, 3, 4, 5, 6, 7, 8, 10, 11, 12, 0] rfl)
                  · rewrite [if_pos c121] at h
                    refine lv_iconst (v := 1) hx hb dL_isMinute_124 (by decide) ?_
                    refine lv_goto (tgt := 129) hx hb dL_isMinute_125 (by decide) ?_
                    exact J129 S94 v7_94 v8_94 v10_94 v12_94 (S94.2.1 k94 3) v11_94 1 isB_1 hI hM hbk hg (by first | rfl | exact h15) (by first | rw [if_neg hn] | rw [if_pos ⟨c115, c121⟩]) (by omega) h _ _ _ hP hS (lv_sub hl [1, 2, 3, 4, 5, 6, 7, 8, 10, 11, 12, 0] rfl)
          rewrite [f_L_isMinute_b89] at h
          refine lv_istore (lv' := [(13, .int 1), (0, .ref (a 0)), (1, .ref (a 20)), (2, .int (nI x3)), (4, .int (nI x5)), (5, .int x6), (7, .int v7_89), (8, .int v8_89), (10, .int v10_89), (11, .int 0), (12, .int 0)]) hx hb dL_isMinute_89 hl (by decide) rfl (fun ls hl => ?_)
          refine lv_iconst (v := 0) hx hb dL_isMinute_91 (by decide) ?_
          refine lv_istore (lv' := [(14, .int 0), (13, .int 1), (0, .ref (a 0)), (1, .ref (a 20)), (2, .int (nI x3)), (4, .int (nI x5)), (5, .int x6), (7, .int v7_89), (8, .int v8_89), (10, .int v10_89), (11, .int 0), (12, .int 0)]) hx hb dL_isMinute_92 hl (by decide) rfl (fun ls hl => ?_)
          exact L94 (x3 + 1) 0 S89 v7_89 v8_89 v10_89 0 0 hI hM (by first | rfl | exact hbk) (by first | rfl | exact hg) (by omega) (by omega) h _ _ _ hP hS (lv_sub hl [2, 3, 4, 5, 6, 7, 8, 9, 10, 11, 1, 0] rfl)
        rewrite [f_L_isMinute_b81] at h
        refine lv_icmp_ne (tgt := 88) hx hb dL_isMinute_81 (by decide) (fun c81 => ?_) (fun c81 => ?_)
        · exact absurd ho c81
        · refine lv_iconst (v := 1) hx hb dL_isMinute_84 (by decide) ?_
          refine lv_goto (tgt := 89) hx hb dL_isMinute_85 (by decide) ?_
          exact J89 S81 v7_81 v8_81 v10_81 hI hM h _ _ _ hP hS (lv_sub hl [0, 1, 2, 3, 4, 5, 6, 7, 8, 9] rfl)
      rewrite [f_L_isMinute_h6] at h
      refine lv_iload hx hb dL_isMinute_6 (lv_at hl 5 rfl) ?_
      refine lv_iload_n hx hb dL_isMinute_8 rfl (lv_at hl 2 rfl) ?_
      refine lv_icmp_ge (tgt := 28) hx hb dL_isMinute_9 (by decide) (fun c9 => ?_) (fun c9 => ?_)
      · have c9 : x3 ≤ k6 := (nI_leI (a := x3) (b := k6) (by omega) (by omega)).mp c9
        rewrite [if_pos c9] at h
        refine lv_aload_n hx hb dL_isMinute_28 rfl (lv_at hl 0 rfl) ?_
        refine gcVi0 (wf := CW G.2 a) (N := 21) (ad := a) (As := []) (rest := []) (S := S6) (v := S6.1 12) (S' := S6) ⟨hx, hb, hml, hown, hts⟩ hK hP hS (c_X3_fromMains l G a ha  S6 _) (cwV 0 hts gL_isMinute_X3_fromMains rfl rfl rfl (by decide +kernel) ⟨Nat.le_of_ble_eq_true rfl, Nat.le_of_ble_eq_true rfl⟩) (crM hK hP) rfl hl.1 rfl (Nat.le_of_ble_eq_true rfl) dL_isMinute_29 ⟨Nat.le_of_ble_eq_true rfl, Nat.le_of_ble_eq_true rfl⟩ (fun H locs hP hS => ?_)
        refine lv_istore (lv' := [(7, .int (S6.1 12)), (0, .ref (a 0)), (1, .ref (a 20)), (2, .int (nI x3)), (4, .int (nI x5)), (5, .int x6)]) hx hb dL_isMinute_32 hl (by decide) rfl (fun ls hl => ?_)
        refine lv_aload_n hx hb dL_isMinute_34 rfl (lv_at hl 1 rfl) ?_
        refine gcVi0 (wf := CW G.2 a) (N := 21) (ad := a) (As := []) (rest := []) (S := S6) (v := S6.1 13) (S' := S6) ⟨hx, hb, hml, hown, hts⟩ hK hP hS (c_X3_fromGenerators l G a ha  S6 _) (cwV 0 hts gL_isMinute_X3_fromGenerators rfl rfl rfl (by decide +kernel) ⟨Nat.le_of_ble_eq_true rfl, Nat.le_of_ble_eq_true rfl⟩) (crM hK hP) rfl hl.1 rfl (Nat.le_of_ble_eq_true rfl) dL_isMinute_35 ⟨Nat.le_of_ble_eq_true rfl, Nat.le_of_ble_eq_true rfl⟩ (fun H locs hP hS => ?_)
        refine lv_aload_n hx hb dL_isMinute_38 rfl (lv_at hl 1 rfl) ?_
        refine gcVi0 (wf := CW G.2 a) (N := 21) (ad := a) (As := []) (rest := [.int (S6.1 13)]) (S := S6) (v := S6.1 14) (S' := S6) ⟨hx, hb, hml, hown, hts⟩ hK hP hS (c_X3_fromBatteries l G a ha  S6 _) (cwV 0 hts gL_isMinute_X3_fromBatteries rfl rfl rfl (by decide +kernel) ⟨Nat.le_of_ble_eq_true rfl, Nat.le_of_ble_eq_true rfl⟩) (crM hK hP) rfl hl.1 rfl (Nat.le_of_ble_eq_true rfl) dL_isMinute_39 ⟨Nat.le_of_ble_eq_true rfl, Nat.le_of_ble_eq_true rfl⟩ (fun H locs hP hS => ?_)
        refine lv_iadd hx hb dL_isMinute_42 ?_
        refine lv_istore (lv' := [(8, .int ((S6.1 13) + (S6.1 14))), (7, .int (S6.1 12)), (0, .ref (a 0)), (1, .ref (a 20)), (2, .int (nI x3)), (4, .int (nI x5)), (5, .int x6)]) hx hb dL_isMinute_43 hl (by decide) rfl (fun ls hl => ?_)
        refine lv_aload_n hx hb dL_isMinute_45 rfl (lv_at hl 2 rfl) ?_
        refine gcVi0 (wf := CW G.2 a) (N := 21) (ad := a) (As := []) (rest := []) (S := S6) (v := S6.1 8) (S' := S6) ⟨hx, hb, hml, hown, hts⟩ hK hP hS (c_X3_outage l G a ha  S6 _) (cwV 0 hts gL_isMinute_X3_outage rfl rfl rfl (by decide +kernel) ⟨Nat.le_of_ble_eq_true rfl, Nat.le_of_ble_eq_true rfl⟩) (crM hK hP) rfl hl.1 rfl (Nat.le_of_ble_eq_true rfl) dL_isMinute_46 ⟨Nat.le_of_ble_eq_true rfl, Nat.le_of_ble_eq_true rfl⟩ (fun H locs hP hS => ?_)
        refine lv_istore (lv' := [(9, .int (S6.1 8)), (8, .int ((S6.1 13) + (S6.1 14))), (7, .int (S6.1 12)), (0, .ref (a 0)), (1, .ref (a 20)), (2, .int (nI x3)), (4, .int (nI x5)), (5, .int x6)]) hx hb dL_isMinute_49 hl (by decide) rfl (fun ls hl => ?_)
        refine lv_aload_n hx hb dL_isMinute_51 rfl (lv_at hl 3 rfl) ?_
        refine lv_iconst (v := 1) hx hb dL_isMinute_52 (by decide) ?_
        refine gcVi (wf := CW G.2 a) (N := 21) (ad := a) (As := [.int 1]) (rest := []) (S := S6) ⟨hx, hb, hml, hown, hts⟩ hK hP hS (c_X3_pass l G a ha 1 (by omega) S6 (Nat.le_refl 1) _) (cwV 1 hts gL_isMinute_X3_pass rfl rfl rfl (by decide +kernel) ⟨Nat.le_of_ble_eq_true rfl, Nat.le_of_ble_eq_true rfl⟩) (crM hK hP) rfl hl.1 rfl (Nat.le_of_ble_eq_true rfl) dL_isMinute_53 ⟨Nat.le_of_ble_eq_true rfl, Nat.le_of_ble_eq_true rfl⟩ (fun p53 H locs ep53 hP hS => ?_)
        rewrite [← ep53] at h
        rewrite [f_L_isMinute_c53] at h
        obtain ⟨hJ9, hM9, hO⟩ := im_of ht9 hI h6 hd (show k6 = x3 by omega)
        rw [← ep53] at hJ9 hM9 hO
        have hI := hJ9
        have hM := hM9
        refine lv_istore (lv' := [(10, .int p53.1), (9, .int (S6.1 8)), (8, .int ((S6.1 13) + (S6.1 14))), (7, .int (S6.1 12)), (0, .ref (a 0)), (1, .ref (a 20)), (2, .int (nI x3)), (4, .int (nI x5)), (5, .int x6)]) hx hb dL_isMinute_56 hl (by decide) rfl (fun ls hl => ?_)
        refine lv_iconst (v := 0) hx hb dL_isMinute_58 (by decide) ?_
        refine lv_istore (lv' := [(11, .int 0), (10, .int p53.1), (9, .int (S6.1 8)), (8, .int ((S6.1 13) + (S6.1 14))), (7, .int (S6.1 12)), (0, .ref (a 0)), (1, .ref (a 20)), (2, .int (nI x3)), (4, .int (nI x5)), (5, .int x6)]) hx hb dL_isMinute_59 hl (by decide) rfl (fun ls hl => ?_)
        refine lv_iconst (v := 0) hx hb dL_isMinute_61 (by decide) ?_
        refine lv_istore (lv' := [(12, .int 0), (11, .int 0), (10, .int p53.1), (9, .int (S6.1 8)), (8, .int ((S6.1 13) + (S6.1 14))), (7, .int (S6.1 12)), (0, .ref (a 0)), (1, .ref (a 20)), (2, .int (nI x3)), (4, .int (nI x5)), (5, .int x6)]) hx hb dL_isMinute_62 hl (by decide) rfl (fun ls hl => ?_)
        refine lv_aload_n hx hb dL_isMinute_64 rfl (lv_at hl 6 rfl) ?_
        refine gcVi0 (wf := CW G.2 a) (N := 21) (ad := a) (As := []) (rest := []) (S := p53.2) (v := p53.2.1 8) (S' := p53.2) ⟨hx, hb, hml, hown, hts⟩ hK hP hS (c_X3_outage l G a ha  p53.2 _) (cwV 0 hts gL_isMinute_X3_outage rfl rfl rfl (by decide +kernel) ⟨Nat.le_of_ble_eq_true rfl, Nat.le_of_ble_eq_true rfl⟩) (crM hK hP) rfl hl.1 rfl (Nat.le_of_ble_eq_true rfl) dL_isMinute_65 ⟨Nat.le_of_ble_eq_true rfl, Nat.le_of_ble_eq_true rfl⟩ (fun H locs hP hS => ?_)
        refine lv_iload hx hb dL_isMinute_68 (lv_at hl 10 rfl) ?_
        refine lv_if_eq (tgt := 77) hx hb dL_isMinute_70 (by decide) (fun c70 => ?_) (fun c70 => ?_)
        · rewrite [if_pos c70] at h
          refine lv_iload hx hb dL_isMinute_77 (lv_at hl 3 rfl) ?_
          refine lv_iconst (v := 1) hx hb dL_isMinute_79 (by decide) ?_
          refine lv_iadd hx hb dL_isMinute_80 ?_
          exact J81 p53.2 (S6.1 12) ((S6.1 13) + (S6.1 14)) p53.1 (p53.2.1 8) ((S6.1 8) + 1) hI hM (by rw [hO]; first | rw [if_pos c70] | rw [if_neg c70]) h _ _ _ hP hS (lv_sub hl [6, 7, 8, 9, 10, 5, 4, 2, 1, 0] rfl)
        · rewrite [if_neg c70] at h
          refine lv_iconst (v := 0) hx hb dL_isMinute_73 (by decide) ?_
          refine lv_goto (tgt := 81) hx hb dL_isMinute_74 (by decide) ?_
          exact J81 p53.2 (S6.1 12) ((S6.1 13) + (S6.1 14)) p53.1 (p53.2.1 8) 0 hI hM (by rw [hO]; first | rw [if_pos c70] | rw [if_neg c70]) h _ _ _ hP hS (lv_sub hl [6, 7, 8, 9, 10, 5, 4, 2, 1, 0] rfl)
      · have c9 : ¬ x3 ≤ k6 := fun z => c9 ((nI_leI (a := x3) (b := k6) (by omega) (by omega)).mpr z)
        rewrite [if_neg c9] at h
        refine lv_aload_n hx hb dL_isMinute_12 rfl (lv_at hl 1 rfl) ?_
        refine lv_iload hx hb dL_isMinute_13 (lv_at hl 5 rfl) ?_
        refine lv_aload_n hx hb dL_isMinute_15 rfl (lv_at hl 0 rfl) ?_
        refine lv_iload hx hb dL_isMinute_16 (lv_at hl 5 rfl) ?_
        refine gcVi0 (wf := CW G.2 a) (N := 21) (ad := a) (As := [.int (nI k6)]) (rest := [.int (nI k6), .ref (a 20)]) (S := S6) (v := S6.2.1 k6 3) (S' := S6) ⟨hx, hb, hml, hown, hts⟩ hK hP hS (c_X3_stateOf l G a ha k6 (by omega) S6 ⟨x3, by omega, hx3, hI.1.1.1⟩ _) (cwV 1 hts gL_isMinute_X3_stateOf rfl rfl rfl (by decide +kernel) ⟨Nat.le_of_ble_eq_true rfl, Nat.le_of_ble_eq_true rfl⟩) (crM hK hP) rfl hl.1 rfl (Nat.le_of_ble_eq_true rfl) dL_isMinute_18 ⟨Nat.le_of_ble_eq_true rfl, Nat.le_of_ble_eq_true rfl⟩ (fun H locs hP hS => ?_)
        refine chst hx hb hK ha hP hS (k := k6) (by omega) dL_isMinute_21 (fun H locs hP hS => ?_)
        refine lv_iinc (k := 5) (v := nI (k6 + 1)) (lv' := [(7, .int (nI (k6 + 1))), (0, .ref (a 0)), (1, .ref (a 20)), (2, .int (nI x3)), (4, .int (nI x5)), (5, .int x6)]) hx hb dL_isMinute_22 hl rfl (nI_inc _) (by decide) rfl (fun ls hl => ?_)
        refine lv_goto (tgt := 6) hx hb dL_isMinute_25 (by decide) ?_
        exact ih6 (k6 + 1) (cuL S6 k6 6 (S6.2.1 k6 3)) (by first | exact hI | exact JI_hd hI) h6 (by first | exact hd_0 | exact hd_s hd) (by omega) (by omega) h _ _ _ hP hS (lv_sub hl [1, 2, 3, 4, 5, 0] rfl)
  rewrite [f_L_isMinute] at h
  refine lv_iconst (v := 0) hx hb dL_isMinute_0 (by decide) ?_
  refine lv_istore (lv' := [(6, .int 0), (0, .ref (a 0)), (1, .ref (a 20)), (2, .int (nI x3)), (3, .int (nI x4)), (4, .int (nI x5)), (5, .int x6)]) hx hb dL_isMinute_1 hl (by decide) rfl (fun ls hl => ?_)
  refine lv_iconst (v := 0) hx hb dL_isMinute_3 (by decide) ?_
  refine lv_istore (lv' := [(7, .int 0), (6, .int 0), (0, .ref (a 0)), (1, .ref (a 20)), (2, .int (nI x3)), (3, .int (nI x4)), (4, .int (nI x5)), (5, .int x6)]) hx hb dL_isMinute_4 hl (by decide) rfl (fun ls hl => ?_)
  exact L6 (x3 + 1) 0 S (by first | exact hI | exact JI_hd hI) h6 (by first | exact hd_0 | exact hd_s hd) (by omega) (by omega) h _ _ _ hP hS (lv_sub hl [2, 3, 4, 6, 7, 0] rfl)

