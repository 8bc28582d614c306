/-! ===== the law's turn, arm by arm ===== -/
/-- the turn's end, at the sums -/
abbrev LE (p : Program) (l : Launch) (e : Env) (s : State) (m : MethodId) (args : Array Value) (below : List Frame) (meth : Method) (c : Code) (Q : State → Prop) (G : WG) (a : Nat → Nat) (b k c0 s0 : Nat) : Prop :=
  ∀ (n : Nat × Nat × Nat) (t : Nat) (f x : Int32) (S : CS) (H : Heap) (locs : List Loc) (ls : Array Slot), t ≤ 12 * (k + 1) → JI n t f S → S.1 6 = x → isB x → wC G a S H → va_S (LF s.heap.size) s.heap H locs → lv_has ls 15 [(8, .int (nI k)), (0, .ref (b)), (1, .ref (a 0)), (2, .ref (a 20)), (3, .int (nI n.1)), (4, .int (nI n.2.1)), (5, .int (nI n.2.2)), (6, .int f), (7, .int x)] → W p l e room_1 s m args below meth c H locs c0 s0 Q (F0 m 563 ls [])
section LAR
variable {p : Program} {l : Launch} {e : Env} {s : State} {m : MethodId} {args : Array Value} {below : List Frame} {meth : Method} {c : Code} {H : Heap} {locs : List Loc} {Q : State → Prop}
variable {ls : Array Slot} {G : WG} {a : Nat → Nat} {b k L c0 s0 t : Nat} {S : CS} {n : Nat × Nat × Nat} {f x : Int32} {xs : Nat → Int32}
set_option maxHeartbeats 4000000 in
theorem la_0 (hL : LAp a s.heap.size) (S9 : LS9 p m c s args) (hK : wK G s) (hf : c0 ≤ room_1.cells ∧ s0 ≤ room_1.slots) (hk : k < 90) (KE : LE p l e s m args below meth c Q G a b k c0 s0) (ht : t ≤ 12 * k) (hI : JI n t f S) (h6 : S.1 6 = x) (hx6 : isB x) (hC : wC G a S H) (hS : va_S (LF s.heap.size) s.heap H locs) {v w u : Int32} (hl : lv_has ls 15 [(11, .int u), (10, .int w), (9, .int v), (8, .int (nI k)), (0, .ref (b)), (1, .ref (a 0)), (2, .ref (a 20)), (3, .int (nI n.1)), (4, .int (nI n.2.1)), (5, .int (nI n.2.2)), (6, .int f), (7, .int x)]) (hn10 : n.1 < 10) : W p l e room_1 s m args below meth c H locs c0 s0 Q (F0 m 84 ls []) := by
  obtain ⟨hx, hb, hml, hown, hts⟩ := id S9
  have hn1 := hI.1.2.1
  have hn3 := hI.1.2.2
  refine lv_aload_n hx hb dL_law_84 rfl (lv_at hl 5 rfl) ?_
  refine lv_iconst (v := (1 : Int32)) hx hb dL_law_85 (by decide) ?_
  refine lv_iload hx hb dL_law_86 (lv_at hl 1 rfl) ?_
  refine lv_iconst (v := nI 5) hx hb dL_law_88 (by decide) ?_
  refine lwSi (As := [.int w, .int (nI 5)]) (rest := [.int (1 : Int32), .ref (a 0)]) (v := nI (lw w 5)) (S' := S) hL S9 hK hC hS (q_low l G a hL.1 w 5 (by omega) S (by omega) _) (va_cwS 2 hts gL_law_L_low rfl rfl rfl (by decide +kernel) ⟨Nat.le_of_ble_eq_true rfl, Nat.le_of_ble_eq_true rfl⟩) rfl hl.1 rfl (Nat.le_of_ble_eq_true rfl) dL_law_89 hf (fun H locs hC hS => ?_)
  refine lv_iadd hx hb dL_law_92 ?_
  refine lv_iconst (v := (1 : Int32)) hx hb dL_law_93 (by decide) ?_
  refine lv_iload hx hb dL_law_94 (lv_at hl 1 rfl) ?_
  refine lv_iconst (v := (3 : Int32)) hx hb dL_law_96 (by decide) ?_
  refine lv_ishr hx hb dL_law_97 ?_
  refine lv_bipush (v := nI 120) hx hb dL_law_98 (by decide) ?_
  refine lwSi (As := [.int (w >>> ((3 : Int32) &&& 31)), .int (nI 120)]) (rest := [.int (1 : Int32), .int ((1 : Int32) + (nI (lw w 5))), .ref (a 0)]) (v := nI (lw (w >>> ((3 : Int32) &&& 31)) 120)) (S' := S) hL S9 hK hC hS (q_low l G a hL.1 (w >>> ((3 : Int32) &&& 31)) 120 (by omega) S (by omega) _) (va_cwS 2 hts gL_law_L_low rfl rfl rfl (by decide +kernel) ⟨Nat.le_of_ble_eq_true rfl, Nat.le_of_ble_eq_true rfl⟩) rfl hl.1 rfl (Nat.le_of_ble_eq_true rfl) dL_law_100 hf (fun H locs hC hS => ?_)
  refine lv_iadd hx hb dL_law_103 ?_
  refine lwV (As := [.int ((1 : Int32) + (nI (lw w 5))), .int ((1 : Int32) + (nI (lw (w >>> ((3 : Int32) &&& 31)) 120)))]) (rest := []) (v := (f_X3_addLoad ((1 : Int32) + (nI (lw w 5))) ((1 : Int32) + (nI (lw (w >>> ((3 : Int32) &&& 31)) 120))) S).1) (S' := (f_X3_addLoad ((1 : Int32) + (nI (lw w 5))) ((1 : Int32) + (nI (lw (w >>> ((3 : Int32) &&& 31)) 120))) S).2) hL S9 hK hC hS (c_X3_addLoad l G a hL.1 ((1 : Int32) + (nI (lw w 5))) ((1 : Int32) + (nI (lw (w >>> ((3 : Int32) &&& 31)) 120))) S ⟨n.1, hn10, hI.1.1.1⟩ (lw_1 (hi := 5) (by decide) (by decide) (by decide)) (lw_1 (hi := 500) (by decide) (by decide) (by decide)) _) (cwV 2 hts gL_law_X3_addLoad rfl rfl rfl (by decide +kernel) ⟨Nat.le_of_ble_eq_true rfl, Nat.le_of_ble_eq_true rfl⟩) rfl hl.1 rfl (Nat.le_of_ble_eq_true rfl) dL_law_104 hf (fun H locs hC hS => ?_)
  have hJ := al_all (x := (1 : Int32) + (nI (lw w 5))) (y := (1 : Int32) + (nI (lw (w >>> ((3 : Int32) &&& 31)) 120))) hn10 (lw_r (by decide) (by decide) (by decide)) hI
  have hI := hJ.1
  have h6 := hJ.2.trans h6
  refine lv_pop hx hb dL_law_107 rfl ?_
  refine lv_iinc (k := 7) (v := nI (n.1 + 1)) (lv' := [(3, .int (nI (n.1 + 1))), (11, .int u), (10, .int w), (9, .int v), (8, .int (nI k)), (0, .ref (b)), (1, .ref (a 0)), (2, .ref (a 20)), (4, .int (nI n.2.1)), (5, .int (nI n.2.2)), (6, .int f), (7, .int x)]) hx hb dL_law_108 hl rfl (nI_inc _) (by decide) rfl (fun ls hl => ?_)
  refine lv_goto (tgt := 563) hx hb dL_law_111 (by decide) ?_
  exact KE (n.1 + 1, n.2.1, n.2.2) t f x _ _ _ _ (by omega) hI h6 hx6 hC hS (lv_sub hl [4, 5, 6, 7, 0, 8, 9, 10, 11] rfl)
set_option maxHeartbeats 4000000 in
theorem la_1b (hL : LAp a s.heap.size) (S9 : LS9 p m c s args) (hK : wK G s) (hf : c0 ≤ room_1.cells ∧ s0 ≤ room_1.slots) (hk : k < 90) (KE : LE p l e s m args below meth c Q G a b k c0 s0) (ht : t ≤ 12 * k) (hI : JI n t f S) (h6 : S.1 6 = x) (hx6 : isB x) (hC : wC G a S H) (hS : va_S (LF s.heap.size) s.heap H locs) {v w u : Int32} (hl : lv_has ls 15 [(11, .int u), (10, .int w), (9, .int v), (8, .int (nI k)), (0, .ref (b)), (1, .ref (a 0)), (2, .ref (a 20)), (3, .int (nI n.1)), (4, .int (nI n.2.1)), (5, .int (nI n.2.2)), (6, .int f), (7, .int x)]) {d : Nat} (hd : 0 < d ∧ d ≤ 2000) (hnb : n.2.1 < 3) : W p l e room_1 s m args below meth c H locs c0 s0 Q (F0 m 148 ls [.int (nI d), .int w, .int (1 : Int32)]) := by
  obtain ⟨hx, hb, hml, hown, hts⟩ := id S9
  have hn1 := hI.1.2.1
  have hn3 := hI.1.2.2
  refine lwSi (As := [.int w, .int (nI d)]) (rest := [.int (1 : Int32)]) (v := nI (lw w d)) (S' := S) hL S9 hK hC hS (q_low l G a hL.1 w d (by omega) S (by omega) _) (va_cwS 2 hts gL_law_L_low rfl rfl rfl (by decide +kernel) ⟨Nat.le_of_ble_eq_true rfl, Nat.le_of_ble_eq_true rfl⟩) rfl hl.1 rfl (Nat.le_of_ble_eq_true rfl) dL_law_148 hf (fun H locs hC hS => ?_)
  refine lv_iadd hx hb dL_law_151 ?_
  refine lv_istore (lv' := [(12, .int ((1 : Int32) + (nI (lw w d)))), (11, .int u), (10, .int w), (9, .int v), (8, .int (nI k)), (0, .ref (b)), (1, .ref (a 0)), (2, .ref (a 20)), (3, .int (nI n.1)), (4, .int (nI n.2.1)), (5, .int (nI n.2.2)), (6, .int f), (7, .int x)]) hx hb dL_law_152 hl (by decide) rfl (fun ls hl => ?_)
  refine lv_aload_n hx hb dL_law_154 rfl (lv_at hl 6 rfl) ?_
  refine lv_iload hx hb dL_law_155 (lv_at hl 0 rfl) ?_
  refine lv_iconst (v := (1 : Int32)) hx hb dL_law_157 (by decide) ?_
  refine lv_iload hx hb dL_law_158 (lv_at hl 2 rfl) ?_
  refine lv_bipush (v := (11 : Int32)) hx hb dL_law_160 (by decide) ?_
  refine lv_ishr hx hb dL_law_162 ?_
  refine lv_sipush (v := nI 300) hx hb dL_law_163 (by decide) ?_
  refine lwSi (As := [.int (w >>> ((11 : Int32) &&& 31)), .int (nI 300)]) (rest := [.int (1 : Int32), .int ((1 : Int32) + (nI (lw w d))), .ref (a 0)]) (v := nI (lw (w >>> ((11 : Int32) &&& 31)) 300)) (S' := S) hL S9 hK hC hS (q_low l G a hL.1 (w >>> ((11 : Int32) &&& 31)) 300 (by omega) S (by omega) _) (va_cwS 2 hts gL_law_L_low rfl rfl rfl (by decide +kernel) ⟨Nat.le_of_ble_eq_true rfl, Nat.le_of_ble_eq_true rfl⟩) rfl hl.1 rfl (Nat.le_of_ble_eq_true rfl) dL_law_166 hf (fun H locs hC hS => ?_)
  refine lv_iadd hx hb dL_law_169 ?_
  refine lv_iconst (v := (1 : Int32)) hx hb dL_law_170 (by decide) ?_
  refine lv_iload hx hb dL_law_171 (lv_at hl 2 rfl) ?_
  refine lv_bipush (v := (20 : Int32)) hx hb dL_law_173 (by decide) ?_
  refine lv_ishr hx hb dL_law_175 ?_
  refine lv_bipush (v := nI 100) hx hb dL_law_176 (by decide) ?_
  refine lwSi (As := [.int (w >>> ((20 : Int32) &&& 31)), .int (nI 100)]) (rest := [.int (1 : Int32), .int ((1 : Int32) + (nI (lw (w >>> ((11 : Int32) &&& 31)) 300))), .int ((1 : Int32) + (nI (lw w d))), .ref (a 0)]) (v := nI (lw (w >>> ((20 : Int32) &&& 31)) 100)) (S' := S) hL S9 hK hC hS (q_low l G a hL.1 (w >>> ((20 : Int32) &&& 31)) 100 (by omega) S (by omega) _) (va_cwS 2 hts gL_law_L_low rfl rfl rfl (by decide +kernel) ⟨Nat.le_of_ble_eq_true rfl, Nat.le_of_ble_eq_true rfl⟩) rfl hl.1 rfl (Nat.le_of_ble_eq_true rfl) dL_law_178 hf (fun H locs hC hS => ?_)
  refine lv_iadd hx hb dL_law_181 ?_
  refine lwV (As := [.int ((1 : Int32) + (nI (lw w d))), .int ((1 : Int32) + (nI (lw (w >>> ((11 : Int32) &&& 31)) 300))), .int ((1 : Int32) + (nI (lw (w >>> ((20 : Int32) &&& 31)) 100)))]) (rest := []) (v := (f_X3_addBattery ((1 : Int32) + (nI (lw w d))) ((1 : Int32) + (nI (lw (w >>> ((11 : Int32) &&& 31)) 300))) ((1 : Int32) + (nI (lw (w >>> ((20 : Int32) &&& 31)) 100))) S).1) (S' := (f_X3_addBattery ((1 : Int32) + (nI (lw w d))) ((1 : Int32) + (nI (lw (w >>> ((11 : Int32) &&& 31)) 300))) ((1 : Int32) + (nI (lw (w >>> ((20 : Int32) &&& 31)) 100))) S).2) hL S9 hK hC hS (c_X3_addBattery l G a hL.1 ((1 : Int32) + (nI (lw w d))) ((1 : Int32) + (nI (lw (w >>> ((11 : Int32) &&& 31)) 300))) ((1 : Int32) + (nI (lw (w >>> ((20 : Int32) &&& 31)) 100))) S ⟨n.2.1, hnb, hI.1.1.2.1⟩ (lw_1 (hi := 20000) hd.1 hd.2 (Int.le_trans (by omega) (show (2000 : Int) ≤ (20000 : Int32).toInt by decide))) (lw_1 (hi := 500) (by decide) (by decide) (by decide)) (lw_1 (hi := 500) (by decide) (by decide) (by decide)) _) (cwV 3 hts gL_law_X3_addBattery rfl rfl rfl (by decide +kernel) ⟨Nat.le_of_ble_eq_true rfl, Nat.le_of_ble_eq_true rfl⟩) rfl hl.1 rfl (Nat.le_of_ble_eq_true rfl) dL_law_182 hf (fun H locs hC hS => ?_)
  have hJ := ab_all (x := (1 : Int32) + (nI (lw w d))) (y := (1 : Int32) + (nI (lw (w >>> ((11 : Int32) &&& 31)) 300))) (z := (1 : Int32) + (nI (lw (w >>> ((20 : Int32) &&& 31)) 100))) hnb (lw_r hd.1 hd.2 (by omega)) (lw_r (by decide) (by decide) (by decide)) (lw_r (by decide) (by decide) (by decide)) hI
  have hI := hJ.1
  have h6 := hJ.2.trans h6
  refine lv_pop hx hb dL_law_185 rfl ?_
  refine lv_iload hx hb dL_law_186 (lv_at hl 11 rfl) ?_
  refine lv_iload hx hb dL_law_188 (lv_at hl 0 rfl) ?_
  refine lv_iadd hx hb dL_law_190 ?_
  refine lv_istore (lv' := [(6, .int (f + ((1 : Int32) + (nI (lw w d))))), (12, .int ((1 : Int32) + (nI (lw w d)))), (11, .int u), (10, .int w), (9, .int v), (8, .int (nI k)), (0, .ref (b)), (1, .ref (a 0)), (2, .ref (a 20)), (3, .int (nI n.1)), (4, .int (nI n.2.1)), (5, .int (nI n.2.2)), (7, .int x)]) hx hb dL_law_191 hl (by decide) rfl (fun ls hl => ?_)
  refine lv_iinc (k := 10) (v := nI (n.2.1 + 1)) (lv' := [(4, .int (nI (n.2.1 + 1))), (6, .int (f + ((1 : Int32) + (nI (lw w d))))), (12, .int ((1 : Int32) + (nI (lw w d)))), (11, .int u), (10, .int w), (9, .int v), (8, .int (nI k)), (0, .ref (b)), (1, .ref (a 0)), (2, .ref (a 20)), (3, .int (nI n.1)), (5, .int (nI n.2.2)), (7, .int x)]) hx hb dL_law_193 hl rfl (nI_inc _) (by decide) rfl (fun ls hl => ?_)
  refine lv_goto (tgt := 563) hx hb dL_law_196 (by decide) ?_
  exact KE (n.1, n.2.1 + 1, n.2.2) t (f + ((1 : Int32) + (nI (lw w d)))) x _ _ _ _ (by omega) hI h6 hx6 hC hS (lv_sub hl [6, 7, 8, 9, 10, 0, 11, 1, 12] rfl)
set_option maxHeartbeats 4000000 in
theorem la_1 (hL : LAp a s.heap.size) (S9 : LS9 p m c s args) (hK : wK G s) (hf : c0 ≤ room_1.cells ∧ s0 ≤ room_1.slots) (hk : k < 90) (KE : LE p l e s m args below meth c Q G a b k c0 s0) (ht : t ≤ 12 * k) (hI : JI n t f S) (h6 : S.1 6 = x) (hx6 : isB x) (hC : wC G a S H) (hS : va_S (LF s.heap.size) s.heap H locs) {v w u : Int32} (hl : lv_has ls 15 [(11, .int u), (10, .int w), (9, .int v), (8, .int (nI k)), (0, .ref (b)), (1, .ref (a 0)), (2, .ref (a 20)), (3, .int (nI n.1)), (4, .int (nI n.2.1)), (5, .int (nI n.2.2)), (6, .int f), (7, .int x)]) (hnb : n.2.1 < 3) : W p l e room_1 s m args below meth c H locs c0 s0 Q (F0 m 126 ls []) := by
  obtain ⟨hx, hb, hml, hown, hts⟩ := id S9
  have hn1 := hI.1.2.1
  have hn3 := hI.1.2.2
  refine lv_iconst (v := (1 : Int32)) hx hb dL_law_126 (by decide) ?_
  refine lv_iload hx hb dL_law_127 (lv_at hl 1 rfl) ?_
  refine lv_iload hx hb dL_law_129 (lv_at hl 2 rfl) ?_
  refine lv_iconst (v := (4 : Int32)) hx hb dL_law_131 (by decide) ?_
  refine lv_ishr hx hb dL_law_132 ?_
  refine lv_iconst (v := nI 2) hx hb dL_law_133 (by decide) ?_
  refine lwSi (As := [.int (v >>> ((4 : Int32) &&& 31)), .int (nI 2)]) (rest := [.int w, .int (1 : Int32)]) (v := nI (lw (v >>> ((4 : Int32) &&& 31)) 2)) (S' := S) hL S9 hK hC hS (q_low l G a hL.1 (v >>> ((4 : Int32) &&& 31)) 2 (by omega) S (by omega) _) (va_cwS 2 hts gL_law_L_low rfl rfl rfl (by decide +kernel) ⟨Nat.le_of_ble_eq_true rfl, Nat.le_of_ble_eq_true rfl⟩) rfl hl.1 rfl (Nat.le_of_ble_eq_true rfl) dL_law_134 hf (fun H locs hC hS => ?_)
  refine lv_if_ne (tgt := 145) hx hb dL_law_137 (by decide) (fun _ => ?_) (fun _ => ?_)
  · refine lv_sipush (v := nI 2000) hx hb dL_law_145 (by decide) ?_
    exact la_1b hL S9 hK hf hk KE ht hI h6 hx6 hC hS hl (d := 2000) (by decide) hnb
  · refine lv_bipush (v := nI 60) hx hb dL_law_140 (by decide) ?_
    refine lv_goto (tgt := 148) hx hb dL_law_142 (by decide) ?_
    exact la_1b hL S9 hK hf hk KE ht hI h6 hx6 hC hS hl (d := 60) (by decide) hnb
set_option maxHeartbeats 4000000 in
theorem la_2 (hL : LAp a s.heap.size) (S9 : LS9 p m c s args) (hK : wK G s) (hf : c0 ≤ room_1.cells ∧ s0 ≤ room_1.slots) (hk : k < 90) (KE : LE p l e s m args below meth c Q G a b k c0 s0) (ht : t ≤ 12 * k) (hI : JI n t f S) (h6 : S.1 6 = x) (hx6 : isB x) (hC : wC G a S H) (hS : va_S (LF s.heap.size) s.heap H locs) {v w u : Int32} (hl : lv_has ls 15 [(11, .int u), (10, .int w), (9, .int v), (8, .int (nI k)), (0, .ref (b)), (1, .ref (a 0)), (2, .ref (a 20)), (3, .int (nI n.1)), (4, .int (nI n.2.1)), (5, .int (nI n.2.2)), (6, .int f), (7, .int x)]) (hng : n.2.2 < 3) : W p l e room_1 s m args below meth c H locs c0 s0 Q (F0 m 211 ls []) := by
  obtain ⟨hx, hb, hml, hown, hts⟩ := id S9
  have hn1 := hI.1.2.1
  have hn3 := hI.1.2.2
  refine lv_aload_n hx hb dL_law_211 rfl (lv_at hl 5 rfl) ?_
  refine lv_iconst (v := (1 : Int32)) hx hb dL_law_212 (by decide) ?_
  refine lv_iload hx hb dL_law_213 (lv_at hl 1 rfl) ?_
  refine lv_sipush (v := nI 400) hx hb dL_law_215 (by decide) ?_
  refine lwSi (As := [.int w, .int (nI 400)]) (rest := [.int (1 : Int32), .ref (a 0)]) (v := nI (lw w 400)) (S' := S) hL S9 hK hC hS (q_low l G a hL.1 w 400 (by omega) S (by omega) _) (va_cwS 2 hts gL_law_L_low rfl rfl rfl (by decide +kernel) ⟨Nat.le_of_ble_eq_true rfl, Nat.le_of_ble_eq_true rfl⟩) rfl hl.1 rfl (Nat.le_of_ble_eq_true rfl) dL_law_218 hf (fun H locs hC hS => ?_)
  refine lv_iadd hx hb dL_law_221 ?_
  refine lv_iconst (v := (1 : Int32)) hx hb dL_law_222 (by decide) ?_
  refine lv_iload hx hb dL_law_223 (lv_at hl 1 rfl) ?_
  refine lv_bipush (v := (9 : Int32)) hx hb dL_law_225 (by decide) ?_
  refine lv_ishr hx hb dL_law_227 ?_
  refine lv_iconst (v := nI 4) hx hb dL_law_228 (by decide) ?_
  refine lwSi (As := [.int (w >>> ((9 : Int32) &&& 31)), .int (nI 4)]) (rest := [.int (1 : Int32), .int ((1 : Int32) + (nI (lw w 400))), .ref (a 0)]) (v := nI (lw (w >>> ((9 : Int32) &&& 31)) 4)) (S' := S) hL S9 hK hC hS (q_low l G a hL.1 (w >>> ((9 : Int32) &&& 31)) 4 (by omega) S (by omega) _) (va_cwS 2 hts gL_law_L_low rfl rfl rfl (by decide +kernel) ⟨Nat.le_of_ble_eq_true rfl, Nat.le_of_ble_eq_true rfl⟩) rfl hl.1 rfl (Nat.le_of_ble_eq_true rfl) dL_law_229 hf (fun H locs hC hS => ?_)
  refine lv_iadd hx hb dL_law_232 ?_
  refine lv_iconst (v := (1 : Int32)) hx hb dL_law_233 (by decide) ?_
  refine lv_iload hx hb dL_law_234 (lv_at hl 1 rfl) ?_
  refine lv_bipush (v := (12 : Int32)) hx hb dL_law_236 (by decide) ?_
  refine lv_ishr hx hb dL_law_238 ?_
  refine lv_bipush (v := nI 60) hx hb dL_law_239 (by decide) ?_
  refine lwSi (As := [.int (w >>> ((12 : Int32) &&& 31)), .int (nI 60)]) (rest := [.int (1 : Int32), .int ((1 : Int32) + (nI (lw (w >>> ((9 : Int32) &&& 31)) 4))), .int ((1 : Int32) + (nI (lw w 400))), .ref (a 0)]) (v := nI (lw (w >>> ((12 : Int32) &&& 31)) 60)) (S' := S) hL S9 hK hC hS (q_low l G a hL.1 (w >>> ((12 : Int32) &&& 31)) 60 (by omega) S (by omega) _) (va_cwS 2 hts gL_law_L_low rfl rfl rfl (by decide +kernel) ⟨Nat.le_of_ble_eq_true rfl, Nat.le_of_ble_eq_true rfl⟩) rfl hl.1 rfl (Nat.le_of_ble_eq_true rfl) dL_law_241 hf (fun H locs hC hS => ?_)
  refine lv_iadd hx hb dL_law_244 ?_
  refine lwV (As := [.int ((1 : Int32) + (nI (lw w 400))), .int ((1 : Int32) + (nI (lw (w >>> ((9 : Int32) &&& 31)) 4))), .int ((1 : Int32) + (nI (lw (w >>> ((12 : Int32) &&& 31)) 60)))]) (rest := []) (v := (f_X3_addGenerator ((1 : Int32) + (nI (lw w 400))) ((1 : Int32) + (nI (lw (w >>> ((9 : Int32) &&& 31)) 4))) ((1 : Int32) + (nI (lw (w >>> ((12 : Int32) &&& 31)) 60))) S).1) (S' := (f_X3_addGenerator ((1 : Int32) + (nI (lw w 400))) ((1 : Int32) + (nI (lw (w >>> ((9 : Int32) &&& 31)) 4))) ((1 : Int32) + (nI (lw (w >>> ((12 : Int32) &&& 31)) 60))) S).2) hL S9 hK hC hS (c_X3_addGenerator l G a hL.1 ((1 : Int32) + (nI (lw w 400))) ((1 : Int32) + (nI (lw (w >>> ((9 : Int32) &&& 31)) 4))) ((1 : Int32) + (nI (lw (w >>> ((12 : Int32) &&& 31)) 60))) S ⟨n.2.2, hng, hI.1.1.2.2⟩ (lw_1 (hi := 1000) (by decide) (by decide) (by decide)) (lw_1 (hi := 10) (by decide) (by decide) (by decide)) (lw_1 (hi := 1000) (by decide) (by decide) (by decide)) _) (cwV 3 hts gL_law_X3_addGenerator rfl rfl rfl (by decide +kernel) ⟨Nat.le_of_ble_eq_true rfl, Nat.le_of_ble_eq_true rfl⟩) rfl hl.1 rfl (Nat.le_of_ble_eq_true rfl) dL_law_245 hf (fun H locs hC hS => ?_)
  have hJ := ag_all (x := (1 : Int32) + (nI (lw w 400))) (y := (1 : Int32) + (nI (lw (w >>> ((9 : Int32) &&& 31)) 4))) (z := (1 : Int32) + (nI (lw (w >>> ((12 : Int32) &&& 31)) 60))) hng (lw_r (by decide) (by decide) (by decide)) hI
  have hI := hJ.1
  have h6 := hJ.2.trans h6
  refine lv_pop hx hb dL_law_248 rfl ?_
  refine lv_iinc (k := 9) (v := nI (n.2.2 + 1)) (lv' := [(5, .int (nI (n.2.2 + 1))), (11, .int u), (10, .int w), (9, .int v), (8, .int (nI k)), (0, .ref (b)), (1, .ref (a 0)), (2, .ref (a 20)), (3, .int (nI n.1)), (4, .int (nI n.2.1)), (6, .int f), (7, .int x)]) hx hb dL_law_249 hl rfl (nI_inc _) (by decide) rfl (fun ls hl => ?_)
  refine lv_goto (tgt := 563) hx hb dL_law_252 (by decide) ?_
  exact KE (n.1, n.2.1, n.2.2 + 1) t f x _ _ _ _ (by omega) hI h6 hx6 hC hS (lv_sub hl [4, 5, 6, 7, 8, 9, 0, 10, 11] rfl)
set_option maxHeartbeats 4000000 in
theorem la_3 (hL : LAp a s.heap.size) (S9 : LS9 p m c s args) (hK : wK G s) (hf : c0 ≤ room_1.cells ∧ s0 ≤ room_1.slots) (hk : k < 90) (KE : LE p l e s m args below meth c Q G a b k c0 s0) (ht : t ≤ 12 * k) (hI : JI n t f S) (h6 : S.1 6 = x) (hx6 : isB x) (hC : wC G a S H) (hS : va_S (LF s.heap.size) s.heap H locs) {v w u : Int32} (hl : lv_has ls 15 [(11, .int u), (10, .int w), (9, .int v), (8, .int (nI k)), (0, .ref (b)), (1, .ref (a 0)), (2, .ref (a 20)), (3, .int (nI n.1)), (4, .int (nI n.2.1)), (5, .int (nI n.2.2)), (6, .int f), (7, .int x)])  : W p l e room_1 s m args below meth c H locs c0 s0 Q (F0 m 261 ls []) := by
  obtain ⟨hx, hb, hml, hown, hts⟩ := id S9
  have hn1 := hI.1.2.1
  have hn3 := hI.1.2.2
  rcases hx6 with rfl | rfl
  · refine lv_aload_n hx hb dL_law_261 rfl (lv_at hl 5 rfl) ?_
    refine lv_iload hx hb dL_law_262 (lv_at hl 11 rfl) ?_
    refine lv_if_ne (tgt := 271) hx hb dL_law_264 (by decide) (fun c9 => ?_) (fun c9 => ?_)
    · exact absurd c9 (by decide)
    · refine lv_iconst (v := (1 : Int32)) hx hb dL_law_267 (by decide) ?_
      refine lv_goto (tgt := 272) hx hb dL_law_268 (by decide) ?_
      refine lwVz (As := [.int (1 : Int32)]) (rest := []) (v := S.1 6) (S' := cuM S 6 1) hL S9 hK hC hS (c_X3_setMains l G a hL.1 (1 : Int32) isB_1 S hI.2.1 _) (cwV 1 hts gL_law_X3_setMains rfl rfl rfl (by decide +kernel) ⟨Nat.le_of_ble_eq_true rfl, Nat.le_of_ble_eq_true rfl⟩) rfl hl.1 rfl (Nat.le_of_ble_eq_true rfl) dL_law_272 hf (fun H locs hbv hC hS => ?_)
      have hI := JI_M6 (v := 1) isB_1 hI
      refine lv_iload hx hb dL_law_275 (lv_at hl 11 rfl) ?_
      refine lv_icmp_eq (tgt := 282) hx hb dL_law_277 (by decide) (fun _ => ?_) (fun c8 => absurd h6 c8)
      refine lv_iload hx hb dL_law_282 (lv_at hl 11 rfl) ?_
      refine lv_if_ne (tgt := 291) hx hb dL_law_284 (by decide) (fun c7 => ?_) (fun c7 => ?_)
      · exact absurd c7 (by decide)
      · refine lv_iconst (v := (1 : Int32)) hx hb dL_law_287 (by decide) ?_
        refine lv_goto (tgt := 292) hx hb dL_law_288 (by decide) ?_
        refine lv_istore (lv' := [(7, .int (1 : Int32)), (11, .int u), (10, .int w), (9, .int v), (8, .int (nI k)), (0, .ref (b)), (1, .ref (a 0)), (2, .ref (a 20)), (3, .int (nI n.1)), (4, .int (nI n.2.1)), (5, .int (nI n.2.2)), (6, .int f)]) hx hb dL_law_292 hl (by decide) rfl (fun ls hl => ?_)
        refine lv_goto (tgt := 563) hx hb dL_law_294 (by decide) ?_
        have h6 : (cuM S 6 1).1 6 = 1 := rfl
        exact KE n t f 1 _ _ _ _ (by omega) hI h6 isB_1 hC hS (lv_sub hl [4, 5, 6, 7, 8, 9, 10, 11, 0] rfl)
  · refine lv_aload_n hx hb dL_law_261 rfl (lv_at hl 5 rfl) ?_
    refine lv_iload hx hb dL_law_262 (lv_at hl 11 rfl) ?_
    refine lv_if_ne (tgt := 271) hx hb dL_law_264 (by decide) (fun c9 => ?_) (fun c9 => ?_)
    · refine lv_iconst (v := (0 : Int32)) hx hb dL_law_271 (by decide) ?_
      refine lwVz (As := [.int (0 : Int32)]) (rest := []) (v := S.1 6) (S' := cuM S 6 0) hL S9 hK hC hS (c_X3_setMains l G a hL.1 (0 : Int32) isB_0 S hI.2.1 _) (cwV 1 hts gL_law_X3_setMains rfl rfl rfl (by decide +kernel) ⟨Nat.le_of_ble_eq_true rfl, Nat.le_of_ble_eq_true rfl⟩) rfl hl.1 rfl (Nat.le_of_ble_eq_true rfl) dL_law_272 hf (fun H locs hbv hC hS => ?_)
      have hI := JI_M6 (v := 0) isB_0 hI
      refine lv_iload hx hb dL_law_275 (lv_at hl 11 rfl) ?_
      refine lv_icmp_eq (tgt := 282) hx hb dL_law_277 (by decide) (fun _ => ?_) (fun c8 => absurd h6 c8)
      refine lv_iload hx hb dL_law_282 (lv_at hl 11 rfl) ?_
      refine lv_if_ne (tgt := 291) hx hb dL_law_284 (by decide) (fun c7 => ?_) (fun c7 => ?_)
      · refine lv_iconst (v := (0 : Int32)) hx hb dL_law_291 (by decide) ?_
        refine lv_istore (lv' := [(7, .int (0 : Int32)), (11, .int u), (10, .int w), (9, .int v), (8, .int (nI k)), (0, .ref (b)), (1, .ref (a 0)), (2, .ref (a 20)), (3, .int (nI n.1)), (4, .int (nI n.2.1)), (5, .int (nI n.2.2)), (6, .int f)]) hx hb dL_law_292 hl (by decide) rfl (fun ls hl => ?_)
        refine lv_goto (tgt := 563) hx hb dL_law_294 (by decide) ?_
        have h6 : (cuM S 6 0).1 6 = 0 := rfl
        exact KE n t f 0 _ _ _ _ (by omega) hI h6 isB_0 hC hS (lv_sub hl [4, 5, 6, 7, 8, 9, 10, 11, 0] rfl)
      · exact absurd c7 (by decide)
    · exact absurd c9 (by decide)
set_option maxHeartbeats 4000000 in
theorem la_4b (hL : LAp a s.heap.size) (S9 : LS9 p m c s args) (hK : wK G s) (hf : c0 ≤ room_1.cells ∧ s0 ≤ room_1.slots) (hk : k < 90) (KE : LE p l e s m args below meth c Q G a b k c0 s0) (ht : t ≤ 12 * k) (hI : JI n t f S) (h6 : S.1 6 = x) (hx6 : isB x) (hC : wC G a S H) (hS : va_S (LF s.heap.size) s.heap H locs) {v w u : Int32} (hl : lv_has ls 15 [(12, .int (nI (lw w n.1))), (11, .int u), (10, .int w), (9, .int v), (8, .int (nI k)), (0, .ref (b)), (1, .ref (a 0)), (2, .ref (a 20)), (3, .int (nI n.1)), (4, .int (nI n.2.1)), (5, .int (nI n.2.2)), (6, .int f), (7, .int x)]) (hn2 : 2 ≤ n.1) {y : Int32} (hy : isB y) : W p l e room_1 s m args below meth c H locs c0 s0 Q (F0 m 327 ls [.int y]) := by
  obtain ⟨hx, hb, hml, hown, hts⟩ := id S9
  have hn1 := hI.1.2.1
  have hn3 := hI.1.2.2
  have hj := lw_lt w (d := n.1) (by omega)
  refine lv_istore (lv' := [(13, .int y), (12, .int (nI (lw w n.1))), (11, .int u), (10, .int w), (9, .int v), (8, .int (nI k)), (0, .ref (b)), (1, .ref (a 0)), (2, .ref (a 20)), (3, .int (nI n.1)), (4, .int (nI n.2.1)), (5, .int (nI n.2.2)), (6, .int f), (7, .int x)]) hx hb dL_law_327 hl (by decide) rfl (fun ls hl => ?_)
  refine lv_aload_n hx hb dL_law_329 rfl (lv_at hl 7 rfl) ?_
  refine lv_iload hx hb dL_law_330 (lv_at hl 1 rfl) ?_
  refine lwV (As := [.int (nI (lw w n.1))]) (rest := []) (v := S.2.1 (lw w n.1) 3) (S' := S) hL S9 hK hC hS (c_X3_stateOf l G a hL.1 (lw w n.1) (by omega) S ⟨n.1, hj, hn1, hI.1.1.1⟩ _) (cwV 1 hts gL_law_X3_stateOf rfl rfl rfl (by decide +kernel) ⟨Nat.le_of_ble_eq_true rfl, Nat.le_of_ble_eq_true rfl⟩) rfl hl.1 rfl (Nat.le_of_ble_eq_true rfl) dL_law_332 hf (fun H locs hC hS => ?_)
  refine lv_istore (lv' := [(14, .int (S.2.1 (lw w n.1) 3)), (13, .int y), (12, .int (nI (lw w n.1))), (11, .int u), (10, .int w), (9, .int v), (8, .int (nI k)), (0, .ref (b)), (1, .ref (a 0)), (2, .ref (a 20)), (3, .int (nI n.1)), (4, .int (nI n.2.1)), (5, .int (nI n.2.2)), (6, .int f), (7, .int x)]) hx hb dL_law_335 hl (by decide) rfl (fun ls hl => ?_)
  refine lv_aload_n hx hb dL_law_337 rfl (lv_at hl 8 rfl) ?_
  refine lv_iload hx hb dL_law_338 (lv_at hl 2 rfl) ?_
  refine lv_iload hx hb dL_law_340 (lv_at hl 1 rfl) ?_
  refine lwV (As := [.int (nI (lw w n.1)), .int y]) (rest := []) (v := (f_X3_switchLoad (lw w n.1) y S).1) (S' := (f_X3_switchLoad (lw w n.1) y S).2) hL S9 hK hC hS (c_X3_switchLoad l G a hL.1 (lw w n.1) (by omega) y hy S ⟨n.1, hj, hn1, hI.1.1.1⟩ _) (cwV 2 hts gL_law_X3_switchLoad rfl rfl rfl (by decide +kernel) ⟨Nat.le_of_ble_eq_true rfl, Nat.le_of_ble_eq_true rfl⟩) rfl hl.1 rfl (Nat.le_of_ble_eq_true rfl) dL_law_342 hf (fun H locs hC hS => ?_)
  obtain ⟨hv, hI, h60⟩ := sw_all (x := y) hj hI
  have h6 := h60.trans h6
  refine lv_iload hx hb dL_law_345 (lv_at hl 1 rfl) ?_
  refine lv_if_ne (tgt := 354) hx hb dL_law_347 (by decide) (fun c9 => ?_) (fun c9 => ?_)
  · refine lv_iload hx hb dL_law_354 (lv_at hl 0 rfl) ?_
    refine lv_if_ne (tgt := 363) hx hb dL_law_356 (by decide) (fun c7 => ?_) (fun c7 => ?_)
    · refine lv_iload hx hb dL_law_363 (lv_at hl 0 rfl) ?_
      refine lv_icmp_eq (tgt := 370) hx hb dL_law_365 (by decide) (fun _ => ?_) (fun c8 => absurd (hv.trans (by rw [if_neg c9, if_neg c7])) c8)
      refine lv_goto (tgt := 563) hx hb dL_law_370 (by decide) ?_
      exact KE n t f x _ _ _ _ (by omega) hI h6 hx6 hC hS (lv_sub hl [6, 7, 8, 9, 10, 11, 12, 13, 14] rfl)
    · refine lv_iconst (v := (2 : Int32)) hx hb dL_law_359 (by decide) ?_
      refine lv_goto (tgt := 365) hx hb dL_law_360 (by decide) ?_
      refine lv_icmp_eq (tgt := 370) hx hb dL_law_365 (by decide) (fun _ => ?_) (fun c8 => absurd (hv.trans (by rw [if_neg c9, if_pos c7])) c8)
      refine lv_goto (tgt := 563) hx hb dL_law_370 (by decide) ?_
      exact KE n t f x _ _ _ _ (by omega) hI h6 hx6 hC hS (lv_sub hl [6, 7, 8, 9, 10, 11, 12, 13, 14] rfl)
  · refine lv_iconst (v := (0 : Int32)) hx hb dL_law_350 (by decide) ?_
    refine lv_goto (tgt := 365) hx hb dL_law_351 (by decide) ?_
    refine lv_icmp_eq (tgt := 370) hx hb dL_law_365 (by decide) (fun _ => ?_) (fun c8 => absurd (hv.trans (by rw [if_pos c9])) c8)
    refine lv_goto (tgt := 563) hx hb dL_law_370 (by decide) ?_
    exact KE n t f x _ _ _ _ (by omega) hI h6 hx6 hC hS (lv_sub hl [6, 7, 8, 9, 10, 11, 12, 13, 14] rfl)
set_option maxHeartbeats 4000000 in
theorem la_4 (hL : LAp a s.heap.size) (S9 : LS9 p m c s args) (hK : wK G s) (hf : c0 ≤ room_1.cells ∧ s0 ≤ room_1.slots) (hk : k < 90) (KE : LE p l e s m args below meth c Q G a b k c0 s0) (ht : t ≤ 12 * k) (hI : JI n t f S) (h6 : S.1 6 = x) (hx6 : isB x) (hC : wC G a S H) (hS : va_S (LF s.heap.size) s.heap H locs) {v w u : Int32} (hl : lv_has ls 15 [(11, .int u), (10, .int w), (9, .int v), (8, .int (nI k)), (0, .ref (b)), (1, .ref (a 0)), (2, .ref (a 20)), (3, .int (nI n.1)), (4, .int (nI n.2.1)), (5, .int (nI n.2.2)), (6, .int f), (7, .int x)]) (hn2 : 2 ≤ n.1) : W p l e room_1 s m args below meth c H locs c0 s0 Q (F0 m 303 ls []) := by
  obtain ⟨hx, hb, hml, hown, hts⟩ := id S9
  have hn1 := hI.1.2.1
  have hn3 := hI.1.2.2
  refine lv_iload hx hb dL_law_303 (lv_at hl 1 rfl) ?_
  refine lv_iload_n hx hb dL_law_305 rfl (lv_at hl 7 rfl) ?_
  refine lwSi (As := [.int w, .int (nI n.1)]) (rest := []) (v := nI (lw w n.1)) (S' := S) hL S9 hK hC hS (q_low l G a hL.1 w n.1 (by omega) S (by omega) _) (va_cwS 2 hts gL_law_L_low rfl rfl rfl (by decide +kernel) ⟨Nat.le_of_ble_eq_true rfl, Nat.le_of_ble_eq_true rfl⟩) rfl hl.1 rfl (Nat.le_of_ble_eq_true rfl) dL_law_306 hf (fun H locs hC hS => ?_)
  refine lv_istore (lv' := [(12, .int (nI (lw w n.1))), (11, .int u), (10, .int w), (9, .int v), (8, .int (nI k)), (0, .ref (b)), (1, .ref (a 0)), (2, .ref (a 20)), (3, .int (nI n.1)), (4, .int (nI n.2.1)), (5, .int (nI n.2.2)), (6, .int f), (7, .int x)]) hx hb dL_law_309 hl (by decide) rfl (fun ls hl => ?_)
  refine lv_iload hx hb dL_law_311 (lv_at hl 2 rfl) ?_
  refine lv_iconst (v := (4 : Int32)) hx hb dL_law_313 (by decide) ?_
  refine lv_ishr hx hb dL_law_314 ?_
  refine lv_iconst (v := nI 3) hx hb dL_law_315 (by decide) ?_
  refine lwSi (As := [.int (w >>> ((4 : Int32) &&& 31)), .int (nI 3)]) (rest := []) (v := nI (lw (w >>> ((4 : Int32) &&& 31)) 3)) (S' := S) hL S9 hK hC hS (q_low l G a hL.1 (w >>> ((4 : Int32) &&& 31)) 3 (by omega) S (by omega) _) (va_cwS 2 hts gL_law_L_low rfl rfl rfl (by decide +kernel) ⟨Nat.le_of_ble_eq_true rfl, Nat.le_of_ble_eq_true rfl⟩) rfl hl.1 rfl (Nat.le_of_ble_eq_true rfl) dL_law_316 hf (fun H locs hC hS => ?_)
  refine lv_if_le (tgt := 326) hx hb dL_law_319 (by decide) (fun _ => ?_) (fun _ => ?_)
  · refine lv_iconst (v := 0) hx hb dL_law_326 (by decide) ?_
    exact la_4b hL S9 hK hf hk KE ht hI h6 hx6 hC hS hl hn2 isB_0
  · refine lv_iconst (v := 1) hx hb dL_law_322 (by decide) ?_
    refine lv_goto (tgt := 327) hx hb dL_law_323 (by decide) ?_
    exact la_4b hL S9 hK hf hk KE ht hI h6 hx6 hC hS hl hn2 isB_1
set_option maxHeartbeats 4000000 in
theorem la_5 (hL : LAp a s.heap.size) (S9 : LS9 p m c s args) (hK : wK G s) (hf : c0 ≤ room_1.cells ∧ s0 ≤ room_1.slots) (hk : k < 90) (KE : LE p l e s m args below meth c Q G a b k c0 s0) (ht : t ≤ 12 * k) (hI : JI n t f S) (h6 : S.1 6 = x) (hx6 : isB x) (hC : wC G a S H) (hS : va_S (LF s.heap.size) s.heap H locs) {v w u : Int32} (hl : lv_has ls 15 [(11, .int u), (10, .int w), (9, .int v), (8, .int (nI k)), (0, .ref (b)), (1, .ref (a 0)), (2, .ref (a 20)), (3, .int (nI n.1)), (4, .int (nI n.2.1)), (5, .int (nI n.2.2)), (6, .int f), (7, .int x)]) (hn2 : 2 ≤ n.1) : W p l e room_1 s m args below meth c H locs c0 s0 Q (F0 m 379 ls []) := by
  obtain ⟨hx, hb, hml, hown, hts⟩ := id S9
  have hn1 := hI.1.2.1
  have hn3 := hI.1.2.2
  have hj := lw_lt w (d := n.1) (by omega)
  refine lv_aload_n hx hb dL_law_379 rfl (lv_at hl 5 rfl) ?_
  refine lv_iload hx hb dL_law_380 (lv_at hl 1 rfl) ?_
  refine lv_iload_n hx hb dL_law_382 rfl (lv_at hl 7 rfl) ?_
  refine lwSi (As := [.int w, .int (nI n.1)]) (rest := [.ref (a 0)]) (v := nI (lw w n.1)) (S' := S) hL S9 hK hC hS (q_low l G a hL.1 w n.1 (by omega) S (by omega) _) (va_cwS 2 hts gL_law_L_low rfl rfl rfl (by decide +kernel) ⟨Nat.le_of_ble_eq_true rfl, Nat.le_of_ble_eq_true rfl⟩) rfl hl.1 rfl (Nat.le_of_ble_eq_true rfl) dL_law_383 hf (fun H locs hC hS => ?_)
  refine lv_iconst (v := (1 : Int32)) hx hb dL_law_386 (by decide) ?_
  refine lv_iload hx hb dL_law_387 (lv_at hl 1 rfl) ?_
  refine lv_iconst (v := (4 : Int32)) hx hb dL_law_389 (by decide) ?_
  refine lv_ishr hx hb dL_law_390 ?_
  refine lv_sipush (v := nI 150) hx hb dL_law_391 (by decide) ?_
  refine lwSi (As := [.int (w >>> ((4 : Int32) &&& 31)), .int (nI 150)]) (rest := [.int (1 : Int32), .int (nI (lw w n.1)), .ref (a 0)]) (v := nI (lw (w >>> ((4 : Int32) &&& 31)) 150)) (S' := S) hL S9 hK hC hS (q_low l G a hL.1 (w >>> ((4 : Int32) &&& 31)) 150 (by omega) S (by omega) _) (va_cwS 2 hts gL_law_L_low rfl rfl rfl (by decide +kernel) ⟨Nat.le_of_ble_eq_true rfl, Nat.le_of_ble_eq_true rfl⟩) rfl hl.1 rfl (Nat.le_of_ble_eq_true rfl) dL_law_394 hf (fun H locs hC hS => ?_)
  refine lv_iadd hx hb dL_law_397 ?_
  refine lwV (As := [.int (nI (lw w n.1)), .int ((1 : Int32) + (nI (lw (w >>> ((4 : Int32) &&& 31)) 150)))]) (rest := []) (v := S.2.1 (lw w n.1) 2) (S' := cuL S (lw w n.1) 2 ((1 : Int32) + (nI (lw (w >>> ((4 : Int32) &&& 31)) 150)))) hL S9 hK hC hS (c_X3_setPower l G a hL.1 (lw w n.1) (by omega) ((1 : Int32) + (nI (lw (w >>> ((4 : Int32) &&& 31)) 150))) S ⟨n.1, hj, hn1, hI.1.1.1⟩ (lw_1 (hi := 500) (by decide) (by decide) (by decide)) _) (cwV 2 hts gL_law_X3_setPower rfl rfl rfl (by decide +kernel) ⟨Nat.le_of_ble_eq_true rfl, Nat.le_of_ble_eq_true rfl⟩) rfl hl.1 rfl (Nat.le_of_ble_eq_true rfl) dL_law_398 hf (fun H locs hC hS => ?_)
  have hI := JI_pw (v := (1 : Int32) + (nI (lw (w >>> ((4 : Int32) &&& 31)) 150))) hj (lw_r (by decide) (by decide) (by decide)) hI
  refine lv_pop hx hb dL_law_401 rfl ?_
  refine lv_goto (tgt := 563) hx hb dL_law_402 (by decide) ?_
  exact KE n t f x _ _ _ _ (by omega) hI h6 hx6 hC hS (lv_sub hl [3, 4, 5, 6, 7, 8, 9, 10, 11] rfl)
set_option maxHeartbeats 4000000 in
theorem la_6 (hL : LAp a s.heap.size) (S9 : LS9 p m c s args) (hK : wK G s) (hf : c0 ≤ room_1.cells ∧ s0 ≤ room_1.slots) (hk : k < 90) (KE : LE p l e s m args below meth c Q G a b k c0 s0) (ht : t ≤ 12 * k) (hI : JI n t f S) (h6 : S.1 6 = x) (hx6 : isB x) (hC : wC G a S H) (hS : va_S (LF s.heap.size) s.heap H locs) {v w u : Int32} (hl : lv_has ls 15 [(11, .int u), (10, .int w), (9, .int v), (8, .int (nI k)), (0, .ref (b)), (1, .ref (a 0)), (2, .ref (a 20)), (3, .int (nI n.1)), (4, .int (nI n.2.1)), (5, .int (nI n.2.2)), (6, .int f), (7, .int x)]) (hng : 0 < n.2.2) : W p l e room_1 s m args below meth c H locs c0 s0 Q (F0 m 417 ls []) := by
  obtain ⟨hx, hb, hml, hown, hts⟩ := id S9
  have hn1 := hI.1.2.1
  have hn3 := hI.1.2.2
  have hj := lw_lt w (d := n.2.2) hng
  refine lv_iload hx hb dL_law_417 (lv_at hl 1 rfl) ?_
  refine lv_iload hx hb dL_law_419 (lv_at hl 9 rfl) ?_
  refine lwSi (As := [.int w, .int (nI n.2.2)]) (rest := []) (v := nI (lw w n.2.2)) (S' := S) hL S9 hK hC hS (q_low l G a hL.1 w n.2.2 (by omega) S (by omega) _) (va_cwS 2 hts gL_law_L_low rfl rfl rfl (by decide +kernel) ⟨Nat.le_of_ble_eq_true rfl, Nat.le_of_ble_eq_true rfl⟩) rfl hl.1 rfl (Nat.le_of_ble_eq_true rfl) dL_law_421 hf (fun H locs hC hS => ?_)
  refine lv_istore (lv' := [(12, .int (nI (lw w n.2.2))), (11, .int u), (10, .int w), (9, .int v), (8, .int (nI k)), (0, .ref (b)), (1, .ref (a 0)), (2, .ref (a 20)), (3, .int (nI n.1)), (4, .int (nI n.2.1)), (5, .int (nI n.2.2)), (6, .int f), (7, .int x)]) hx hb dL_law_424 hl (by decide) rfl (fun ls hl => ?_)
  refine lv_aload_n hx hb dL_law_426 rfl (lv_at hl 6 rfl) ?_
  refine lv_iload hx hb dL_law_427 (lv_at hl 0 rfl) ?_
  refine lv_iconst (v := (1 : Int32)) hx hb dL_law_429 (by decide) ?_
  refine lv_iload hx hb dL_law_430 (lv_at hl 2 rfl) ?_
  refine lv_iconst (v := (3 : Int32)) hx hb dL_law_432 (by decide) ?_
  refine lv_ishr hx hb dL_law_433 ?_
  refine lv_bipush (v := nI 50) hx hb dL_law_434 (by decide) ?_
  refine lwSi (As := [.int (w >>> ((3 : Int32) &&& 31)), .int (nI 50)]) (rest := [.int (1 : Int32), .int (nI (lw w n.2.2)), .ref (a 0)]) (v := nI (lw (w >>> ((3 : Int32) &&& 31)) 50)) (S' := S) hL S9 hK hC hS (q_low l G a hL.1 (w >>> ((3 : Int32) &&& 31)) 50 (by omega) S (by omega) _) (va_cwS 2 hts gL_law_L_low rfl rfl rfl (by decide +kernel) ⟨Nat.le_of_ble_eq_true rfl, Nat.le_of_ble_eq_true rfl⟩) rfl hl.1 rfl (Nat.le_of_ble_eq_true rfl) dL_law_436 hf (fun H locs hC hS => ?_)
  refine lv_iadd hx hb dL_law_439 ?_
  refine lwV (As := [.int (nI (lw w n.2.2)), .int ((1 : Int32) + (nI (lw (w >>> ((3 : Int32) &&& 31)) 50)))]) (rest := []) (v := (f_X3_refuel (lw w n.2.2) ((1 : Int32) + (nI (lw (w >>> ((3 : Int32) &&& 31)) 50))) S).1) (S' := (f_X3_refuel (lw w n.2.2) ((1 : Int32) + (nI (lw (w >>> ((3 : Int32) &&& 31)) 50))) S).2) hL S9 hK hC hS (c_X3_refuel l G a hL.1 (lw w n.2.2) (by omega) ((1 : Int32) + (nI (lw (w >>> ((3 : Int32) &&& 31)) 50))) S ⟨n.2.2, hj, hn3.2, hI.1.1.2.2⟩ (lw_1 (hi := 1000) (by decide) (by decide) (by decide)) _) (cwV 2 hts gL_law_X3_refuel rfl rfl rfl (by decide +kernel) ⟨Nat.le_of_ble_eq_true rfl, Nat.le_of_ble_eq_true rfl⟩) rfl hl.1 rfl (Nat.le_of_ble_eq_true rfl) dL_law_440 hf (fun H locs hC hS => ?_)
  have hJ := rf_all (x := (1 : Int32) + (nI (lw (w >>> ((3 : Int32) &&& 31)) 50))) hj hI
  have hI := hJ.1
  have h6 := hJ.2.trans h6
  refine lv_pop hx hb dL_law_443 rfl ?_
  refine lv_aload_n hx hb dL_law_444 rfl (lv_at hl 6 rfl) ?_
  refine lv_iload hx hb dL_law_445 (lv_at hl 0 rfl) ?_
  refine lv_iload hx hb dL_law_447 (lv_at hl 2 rfl) ?_
  refine lv_bipush (v := (9 : Int32)) hx hb dL_law_449 (by decide) ?_
  refine lv_ishr hx hb dL_law_451 ?_
  refine lv_iconst (v := nI 2) hx hb dL_law_452 (by decide) ?_
  refine lwSi (As := [.int (w >>> ((9 : Int32) &&& 31)), .int (nI 2)]) (rest := [.int (nI (lw w n.2.2)), .ref (a 0)]) (v := nI (lw (w >>> ((9 : Int32) &&& 31)) 2)) (S' := (f_X3_refuel (lw w n.2.2) ((1 : Int32) + (nI (lw (w >>> ((3 : Int32) &&& 31)) 50))) S).2) hL S9 hK hC hS (q_low l G a hL.1 (w >>> ((9 : Int32) &&& 31)) 2 (by omega) ((f_X3_refuel (lw w n.2.2) ((1 : Int32) + (nI (lw (w >>> ((3 : Int32) &&& 31)) 50))) S).2) (by omega) _) (va_cwS 2 hts gL_law_L_low rfl rfl rfl (by decide +kernel) ⟨Nat.le_of_ble_eq_true rfl, Nat.le_of_ble_eq_true rfl⟩) rfl hl.1 rfl (Nat.le_of_ble_eq_true rfl) dL_law_453 hf (fun H locs hC hS => ?_)
  refine lwV (As := [.int (nI (lw w n.2.2)), .int (nI (lw (w >>> ((9 : Int32) &&& 31)) 2))]) (rest := []) (v := ((f_X3_refuel (lw w n.2.2) ((1 : Int32) + (nI (lw (w >>> ((3 : Int32) &&& 31)) 50))) S).2).2.2.2 (lw w n.2.2) 9) (S' := cuG ((f_X3_refuel (lw w n.2.2) ((1 : Int32) + (nI (lw (w >>> ((3 : Int32) &&& 31)) 50))) S).2) (lw w n.2.2) 9 (nI (lw (w >>> ((9 : Int32) &&& 31)) 2))) hL S9 hK hC hS (c_X3_setFailures l G a hL.1 (lw w n.2.2) (by omega) (nI (lw (w >>> ((9 : Int32) &&& 31)) 2)) ((f_X3_refuel (lw w n.2.2) ((1 : Int32) + (nI (lw (w >>> ((3 : Int32) &&& 31)) 50))) S).2) ⟨n.2.2, hj, hn3.2, hI.1.1.2.2⟩ (lw_0 (hi := 5) (by decide) (by decide) (by decide)) _) (cwV 2 hts gL_law_X3_setFailures rfl rfl rfl (by decide +kernel) ⟨Nat.le_of_ble_eq_true rfl, Nat.le_of_ble_eq_true rfl⟩) rfl hl.1 rfl (Nat.le_of_ble_eq_true rfl) dL_law_456 hf (fun H locs hC hS => ?_)
  have hI := JI_g (z := 9) (v := nI (lw (w >>> ((9 : Int32) &&& 31)) 2)) hj (by decide) hI
  refine lv_pop hx hb dL_law_459 rfl ?_
  refine lv_aload_n hx hb dL_law_460 rfl (lv_at hl 6 rfl) ?_
  refine lv_iload hx hb dL_law_461 (lv_at hl 0 rfl) ?_
  refine lv_iload hx hb dL_law_463 (lv_at hl 2 rfl) ?_
  refine lv_bipush (v := (10 : Int32)) hx hb dL_law_465 (by decide) ?_
  refine lv_ishr hx hb dL_law_467 ?_
  refine lv_bipush (v := nI 20) hx hb dL_law_468 (by decide) ?_
  refine lwSi (As := [.int (w >>> ((10 : Int32) &&& 31)), .int (nI 20)]) (rest := [.int (nI (lw w n.2.2)), .ref (a 0)]) (v := nI (lw (w >>> ((10 : Int32) &&& 31)) 20)) (S' := cuG ((f_X3_refuel (lw w n.2.2) ((1 : Int32) + (nI (lw (w >>> ((3 : Int32) &&& 31)) 50))) S).2) (lw w n.2.2) 9 (nI (lw (w >>> ((9 : Int32) &&& 31)) 2))) hL S9 hK hC hS (q_low l G a hL.1 (w >>> ((10 : Int32) &&& 31)) 20 (by omega) (cuG ((f_X3_refuel (lw w n.2.2) ((1 : Int32) + (nI (lw (w >>> ((3 : Int32) &&& 31)) 50))) S).2) (lw w n.2.2) 9 (nI (lw (w >>> ((9 : Int32) &&& 31)) 2))) (by omega) _) (va_cwS 2 hts gL_law_L_low rfl rfl rfl (by decide +kernel) ⟨Nat.le_of_ble_eq_true rfl, Nat.le_of_ble_eq_true rfl⟩) rfl hl.1 rfl (Nat.le_of_ble_eq_true rfl) dL_law_470 hf (fun H locs hC hS => ?_)
  refine lv_iconst (v := (1 : Int32)) hx hb dL_law_473 (by decide) ?_
  refine lv_iload hx hb dL_law_474 (lv_at hl 2 rfl) ?_
  refine lv_bipush (v := (15 : Int32)) hx hb dL_law_476 (by decide) ?_
  refine lv_ishr hx hb dL_law_478 ?_
  refine lv_iconst (v := nI 4) hx hb dL_law_479 (by decide) ?_
  refine lwSi (As := [.int (w >>> ((15 : Int32) &&& 31)), .int (nI 4)]) (rest := [.int (1 : Int32), .int (nI (lw (w >>> ((10 : Int32) &&& 31)) 20)), .int (nI (lw w n.2.2)), .ref (a 0)]) (v := nI (lw (w >>> ((15 : Int32) &&& 31)) 4)) (S' := cuG ((f_X3_refuel (lw w n.2.2) ((1 : Int32) + (nI (lw (w >>> ((3 : Int32) &&& 31)) 50))) S).2) (lw w n.2.2) 9 (nI (lw (w >>> ((9 : Int32) &&& 31)) 2))) hL S9 hK hC hS (q_low l G a hL.1 (w >>> ((15 : Int32) &&& 31)) 4 (by omega) (cuG ((f_X3_refuel (lw w n.2.2) ((1 : Int32) + (nI (lw (w >>> ((3 : Int32) &&& 31)) 50))) S).2) (lw w n.2.2) 9 (nI (lw (w >>> ((9 : Int32) &&& 31)) 2))) (by omega) _) (va_cwS 2 hts gL_law_L_low rfl rfl rfl (by decide +kernel) ⟨Nat.le_of_ble_eq_true rfl, Nat.le_of_ble_eq_true rfl⟩) rfl hl.1 rfl (Nat.le_of_ble_eq_true rfl) dL_law_480 hf (fun H locs hC hS => ?_)
  refine lv_iadd hx hb dL_law_483 ?_
  refine lwV (As := [.int (nI (lw w n.2.2)), .int (nI (lw (w >>> ((10 : Int32) &&& 31)) 20)), .int ((1 : Int32) + (nI (lw (w >>> ((15 : Int32) &&& 31)) 4)))]) (rest := []) (v := (cuG ((f_X3_refuel (lw w n.2.2) ((1 : Int32) + (nI (lw (w >>> ((3 : Int32) &&& 31)) 50))) S).2) (lw w n.2.2) 9 (nI (lw (w >>> ((9 : Int32) &&& 31)) 2))).2.2.2 (lw w n.2.2) 11) (S' := cuG (cuG (cuG ((f_X3_refuel (lw w n.2.2) ((1 : Int32) + (nI (lw (w >>> ((3 : Int32) &&& 31)) 50))) S).2) (lw w n.2.2) 9 (nI (lw (w >>> ((9 : Int32) &&& 31)) 2))) (lw w n.2.2) 11 (nI (lw (w >>> ((10 : Int32) &&& 31)) 20))) (lw w n.2.2) 12 ((1 : Int32) + (nI (lw (w >>> ((15 : Int32) &&& 31)) 4)))) hL S9 hK hC hS (c_X3_setTests l G a hL.1 (lw w n.2.2) (by omega) (nI (lw (w >>> ((10 : Int32) &&& 31)) 20)) ((1 : Int32) + (nI (lw (w >>> ((15 : Int32) &&& 31)) 4))) (cuG ((f_X3_refuel (lw w n.2.2) ((1 : Int32) + (nI (lw (w >>> ((3 : Int32) &&& 31)) 50))) S).2) (lw w n.2.2) 9 (nI (lw (w >>> ((9 : Int32) &&& 31)) 2))) ⟨n.2.2, hj, hn3.2, hI.1.1.2.2⟩ (lw_0 (hi := 10000) (by decide) (by decide) (by decide)) (lw_1 (hi := 60) (by decide) (by decide) (by decide)) _) (cwV 3 hts gL_law_X3_setTests rfl rfl rfl (by decide +kernel) ⟨Nat.le_of_ble_eq_true rfl, Nat.le_of_ble_eq_true rfl⟩) rfl hl.1 rfl (Nat.le_of_ble_eq_true rfl) dL_law_484 hf (fun H locs hC hS => ?_)
  have hI := JI_g (z := 12) (v := (1 : Int32) + (nI (lw (w >>> ((15 : Int32) &&& 31)) 4))) hj (by decide) (JI_g (z := 11) (v := nI (lw (w >>> ((10 : Int32) &&& 31)) 20)) hj (by decide) hI)
  refine lv_pop hx hb dL_law_487 rfl ?_
  refine lv_goto (tgt := 563) hx hb dL_law_488 (by decide) ?_
  exact KE n t f x _ _ _ _ (by omega) hI h6 hx6 hC hS (lv_sub hl [4, 5, 6, 7, 8, 9, 10, 11, 12] rfl)
set_option maxHeartbeats 4000000 in
theorem la_7 (hL : LAp a s.heap.size) (S9 : LS9 p m c s args) (hK : wK G s) (hf : c0 ≤ room_1.cells ∧ s0 ≤ room_1.slots) (hk : k < 90) (KE : LE p l e s m args below meth c Q G a b k c0 s0) (ht : t ≤ 12 * k) (hI : JI n t f S) (h6 : S.1 6 = x) (hx6 : isB x) (hC : wC G a S H) (hS : va_S (LF s.heap.size) s.heap H locs) {v w u : Int32} (hl : lv_has ls 15 [(11, .int u), (10, .int w), (9, .int v), (8, .int (nI k)), (0, .ref (b)), (1, .ref (a 0)), (2, .ref (a 20)), (3, .int (nI n.1)), (4, .int (nI n.2.1)), (5, .int (nI n.2.2)), (6, .int f), (7, .int x)])  : W p l e room_1 s m args below meth c H locs c0 s0 Q (F0 m 498 ls []) := by
  obtain ⟨hx, hb, hml, hown, hts⟩ := id S9
  have hn1 := hI.1.2.1
  have hn3 := hI.1.2.2
  refine lv_aload_n hx hb dL_law_498 rfl (lv_at hl 5 rfl) ?_
  refine lv_iload hx hb dL_law_499 (lv_at hl 1 rfl) ?_
  refine lv_iconst (v := nI 4) hx hb dL_law_501 (by decide) ?_
  refine lwSi (As := [.int w, .int (nI 4)]) (rest := [.ref (a 0)]) (v := nI (lw w 4)) (S' := S) hL S9 hK hC hS (q_low l G a hL.1 w 4 (by omega) S (by omega) _) (va_cwS 2 hts gL_law_L_low rfl rfl rfl (by decide +kernel) ⟨Nat.le_of_ble_eq_true rfl, Nat.le_of_ble_eq_true rfl⟩) rfl hl.1 rfl (Nat.le_of_ble_eq_true rfl) dL_law_502 hf (fun H locs hC hS => ?_)
  refine lv_iconst (v := (1 : Int32)) hx hb dL_law_505 (by decide) ?_
  refine lv_iload hx hb dL_law_506 (lv_at hl 1 rfl) ?_
  refine lv_iconst (v := (3 : Int32)) hx hb dL_law_508 (by decide) ?_
  refine lv_ishr hx hb dL_law_509 ?_
  refine lv_iconst (v := nI 4) hx hb dL_law_510 (by decide) ?_
  refine lwSi (As := [.int (w >>> ((3 : Int32) &&& 31)), .int (nI 4)]) (rest := [.int (1 : Int32), .int (nI (lw w 4)), .ref (a 0)]) (v := nI (lw (w >>> ((3 : Int32) &&& 31)) 4)) (S' := S) hL S9 hK hC hS (q_low l G a hL.1 (w >>> ((3 : Int32) &&& 31)) 4 (by omega) S (by omega) _) (va_cwS 2 hts gL_law_L_low rfl rfl rfl (by decide +kernel) ⟨Nat.le_of_ble_eq_true rfl, Nat.le_of_ble_eq_true rfl⟩) rfl hl.1 rfl (Nat.le_of_ble_eq_true rfl) dL_law_511 hf (fun H locs hC hS => ?_)
  refine lv_iadd hx hb dL_law_514 ?_
  refine lwV (As := [.int (nI (lw w 4)), .int ((1 : Int32) + (nI (lw (w >>> ((3 : Int32) &&& 31)) 4)))]) (rest := []) (v := S.1 9) (S' := cuM (cuM S 9 (nI (lw w 4))) 10 ((1 : Int32) + (nI (lw (w >>> ((3 : Int32) &&& 31)) 4)))) hL S9 hK hC hS (c_X3_setTimes l G a hL.1 (nI (lw w 4)) ((1 : Int32) + (nI (lw (w >>> ((3 : Int32) &&& 31)) 4))) S (lw_0 (hi := 30) (by decide) (by decide) (by decide)) (lw_1 (hi := 10) (by decide) (by decide) (by decide)) _) (cwV 2 hts gL_law_X3_setTimes rfl rfl rfl (by decide +kernel) ⟨Nat.le_of_ble_eq_true rfl, Nat.le_of_ble_eq_true rfl⟩) rfl hl.1 rfl (Nat.le_of_ble_eq_true rfl) dL_law_515 hf (fun H locs hC hS => ?_)
  have hI := JI_M (k := 10) (v := (1 : Int32) + (nI (lw (w >>> ((3 : Int32) &&& 31)) 4))) (Or.inr rfl) (JI_M (k := 9) (v := nI (lw w 4)) (Or.inl rfl) hI)
  refine lv_pop hx hb dL_law_518 rfl ?_
  refine lv_goto (tgt := 563) hx hb dL_law_519 (by decide) ?_
  exact KE n t f x _ _ _ _ (by omega) hI h6 hx6 hC hS (lv_sub hl [3, 4, 5, 6, 7, 8, 9, 10, 11] rfl)
set_option maxHeartbeats 4000000 in
theorem la_8 (hL : LAp a s.heap.size) (S9 : LS9 p m c s args) (hK : wK G s) (hf : c0 ≤ room_1.cells ∧ s0 ≤ room_1.slots) (hk : k < 90) (KE : LE p l e s m args below meth c Q G a b k c0 s0) (ht : t ≤ 12 * k) (hI : JI n t f S) (h6 : S.1 6 = x) (hx6 : isB x) (hC : wC G a S H) (hS : va_S (LF s.heap.size) s.heap H locs) {v w u : Int32} (hl : lv_has ls 15 [(11, .int u), (10, .int w), (9, .int v), (8, .int (nI k)), (0, .ref (b)), (1, .ref (a 0)), (2, .ref (a 20)), (3, .int (nI n.1)), (4, .int (nI n.2.1)), (5, .int (nI n.2.2)), (6, .int f), (7, .int x)])  : W p l e room_1 s m args below meth c H locs c0 s0 Q (F0 m 529 ls []) := by
  obtain ⟨hx, hb, hml, hown, hts⟩ := id S9
  have hn1 := hI.1.2.1
  have hn3 := hI.1.2.2
  refine lv_aload_n hx hb dL_law_529 rfl (lv_at hl 5 rfl) ?_
  refine lv_iconst (v := nI 1) hx hb dL_law_530 (by decide) ?_
  refine lv_iload hx hb dL_law_531 (lv_at hl 1 rfl) ?_
  refine lv_bipush (v := nI 12) hx hb dL_law_533 (by decide) ?_
  refine lwSi (As := [.int w, .int (nI 12)]) (rest := [.int (nI 1), .ref (a 0)]) (v := nI (lw w 12)) (S' := S) hL S9 hK hC hS (q_low l G a hL.1 w 12 (by omega) S (by omega) _) (va_cwS 2 hts gL_law_L_low rfl rfl rfl (by decide +kernel) ⟨Nat.le_of_ble_eq_true rfl, Nat.le_of_ble_eq_true rfl⟩) rfl hl.1 rfl (Nat.le_of_ble_eq_true rfl) dL_law_535 hf (fun H locs hC hS => ?_)
  refine lv_iadd hx hb dL_law_538 ?_
  rw [nI_add]
  have hj := lw_lt w (d := 12) (by decide)
  refine lwV (As := [.int (nI (1 + lw w 12))]) (rest := []) (v := (f_X3_pass (1 + lw w 12) S).1) (S' := (f_X3_pass (1 + lw w 12) S).2) hL S9 hK hC hS (c_X3_pass l G a hL.1 (1 + lw w 12) (by omega) S (by omega) _) (cwV 1 hts gL_law_X3_pass rfl rfl rfl (by decide +kernel) ⟨Nat.le_of_ble_eq_true rfl, Nat.le_of_ble_eq_true rfl⟩) rfl hl.1 rfl (Nat.le_of_ble_eq_true rfl) dL_law_539 hf (fun H locs hC hS => ?_)
  have hJ := pass_all (m := 1 + lw w 12) (by omega) hI
  have hI := hJ.1
  have h6 := hJ.2.trans h6
  refine lv_pop hx hb dL_law_542 rfl ?_
  refine lv_goto (tgt := 563) hx hb dL_law_543 (by decide) ?_
  exact KE n (t + (1 + lw w 12)) f x _ _ _ _ (by omega) hI h6 hx6 hC hS (lv_sub hl [3, 4, 5, 6, 7, 8, 9, 10, 11] rfl)
set_option maxHeartbeats 4000000 in
theorem la_9 (hL : LAp a s.heap.size) (S9 : LS9 p m c s args) (hK : wK G s) (hf : c0 ≤ room_1.cells ∧ s0 ≤ room_1.slots) (hk : k < 90) (KE : LE p l e s m args below meth c Q G a b k c0 s0) (ht : t ≤ 12 * k) (hI : JI n t f S) (h6 : S.1 6 = x) (hx6 : isB x) (hC : wC G a S H) (hS : va_S (LF s.heap.size) s.heap H locs) {v w u : Int32} (hl : lv_has ls 15 [(11, .int u), (10, .int w), (9, .int v), (8, .int (nI k)), (0, .ref (b)), (1, .ref (a 0)), (2, .ref (a 20)), (3, .int (nI n.1)), (4, .int (nI n.2.1)), (5, .int (nI n.2.2)), (6, .int f), (7, .int x)])  : W p l e room_1 s m args below meth c H locs c0 s0 Q (F0 m 546 ls []) := by
  obtain ⟨hx, hb, hml, hown, hts⟩ := id S9
  have hn1 := hI.1.2.1
  have hn3 := hI.1.2.2
  refine lv_aload_n hx hb dL_law_546 rfl (lv_at hl 5 rfl) ?_
  refine lv_aload_n hx hb dL_law_547 rfl (lv_at hl 6 rfl) ?_
  refine lv_iload_n hx hb dL_law_548 rfl (lv_at hl 7 rfl) ?_
  refine lv_iload hx hb dL_law_549 (lv_at hl 8 rfl) ?_
  refine lv_iload hx hb dL_law_551 (lv_at hl 9 rfl) ?_
  refine lv_iload hx hb dL_law_553 (lv_at hl 11 rfl) ?_
  obtain ⟨S2, e2, hI2, h62⟩ := mi_all (t := t) (f := f) (n := n) (by omega) hI
  refine lwSz (As := [.ref (a 0), .ref (a 20), .int (nI n.1), .int (nI n.2.1), .int (nI n.2.2), .int x]) (rest := []) (v := 1) (S' := S2) hL S9 hK hC hS (mi_c l G a hL.1 hx6 (by omega) hI h6 e2) (va_cwS 6 hts gL_law_L_isMinute rfl rfl rfl (by decide +kernel) ⟨Nat.le_of_ble_eq_true rfl, Nat.le_of_ble_eq_true rfl⟩) rfl hl.1 rfl (Nat.le_of_ble_eq_true rfl) dL_law_555 hf (fun H locs _ hC hS => ?_)
  refine lv_if_ne (tgt := 563) hx hb dL_law_558 (by decide) (fun _ => ?_) (fun c9 => absurd c9 (by decide))
  have hI := hI2
  have h6 := h62.trans h6
  exact KE n (t + 1) f x _ _ _ _ (by omega) hI h6 hx6 hC hS (lv_sub hl [3, 4, 5, 6, 7, 8, 9, 10, 11] rfl)
set_option maxHeartbeats 4000000 in
theorem lt_546 (hL : LAp a s.heap.size) (S9 : LS9 p m c s args) (hK : wK G s) (hf : c0 ≤ room_1.cells ∧ s0 ≤ room_1.slots) (hk : k < 90) (KE : LE p l e s m args below meth c Q G a b k c0 s0) (ht : t ≤ 12 * k) (hI : JI n t f S) (h6 : S.1 6 = x) (hx6 : isB x) (hC : wC G a S H) (hS : va_S (LF s.heap.size) s.heap H locs) {v w u : Int32} (hl : lv_has ls 15 [(11, .int u), (10, .int w), (9, .int v), (8, .int (nI k)), (0, .ref (b)), (1, .ref (a 0)), (2, .ref (a 20)), (3, .int (nI n.1)), (4, .int (nI n.2.1)), (5, .int (nI n.2.2)), (6, .int f), (7, .int x)]) (hn2 : 2 ≤ n.1) : W p l e room_1 s m args below meth c H locs c0 s0 Q (F0 m 546 ls []) := la_9 hL S9 hK hf hk KE ht hI h6 hx6 hC hS hl
set_option maxHeartbeats 4000000 in
theorem lt_522 (hL : LAp a s.heap.size) (S9 : LS9 p m c s args) (hK : wK G s) (hf : c0 ≤ room_1.cells ∧ s0 ≤ room_1.slots) (hk : k < 90) (KE : LE p l e s m args below meth c Q G a b k c0 s0) (ht : t ≤ 12 * k) (hI : JI n t f S) (h6 : S.1 6 = x) (hx6 : isB x) (hC : wC G a S H) (hS : va_S (LF s.heap.size) s.heap H locs) {v w u : Int32} (hl : lv_has ls 15 [(11, .int u), (10, .int w), (9, .int v), (8, .int (nI k)), (0, .ref (b)), (1, .ref (a 0)), (2, .ref (a 20)), (3, .int (nI n.1)), (4, .int (nI n.2.1)), (5, .int (nI n.2.2)), (6, .int f), (7, .int x)]) (hn2 : 2 ≤ n.1) : W p l e room_1 s m args below meth c H locs c0 s0 Q (F0 m 522 ls []) := by
  obtain ⟨hx, hb, hml, hown, hts⟩ := id S9
  have hn1 := hI.1.2.1
  have hn3 := hI.1.2.2
  refine lv_iload hx hb dL_law_522 (lv_at hl 0 rfl) ?_
  refine lv_bipush (v := (8 : Int32)) hx hb dL_law_524 (by decide) ?_
  refine lv_icmp_ne (tgt := 546) hx hb dL_law_526 (by decide) (fun _ => ?_) (fun _ => ?_)
  · exact lt_546 hL S9 hK hf hk KE ht hI h6 hx6 hC hS hl hn2
  · exact la_8 hL S9 hK hf hk KE ht hI h6 hx6 hC hS hl
set_option maxHeartbeats 4000000 in
theorem lt_491 (hL : LAp a s.heap.size) (S9 : LS9 p m c s args) (hK : wK G s) (hf : c0 ≤ room_1.cells ∧ s0 ≤ room_1.slots) (hk : k < 90) (KE : LE p l e s m args below meth c Q G a b k c0 s0) (ht : t ≤ 12 * k) (hI : JI n t f S) (h6 : S.1 6 = x) (hx6 : isB x) (hC : wC G a S H) (hS : va_S (LF s.heap.size) s.heap H locs) {v w u : Int32} (hl : lv_has ls 15 [(11, .int u), (10, .int w), (9, .int v), (8, .int (nI k)), (0, .ref (b)), (1, .ref (a 0)), (2, .ref (a 20)), (3, .int (nI n.1)), (4, .int (nI n.2.1)), (5, .int (nI n.2.2)), (6, .int f), (7, .int x)]) (hn2 : 2 ≤ n.1) : W p l e room_1 s m args below meth c H locs c0 s0 Q (F0 m 491 ls []) := by
  obtain ⟨hx, hb, hml, hown, hts⟩ := id S9
  have hn1 := hI.1.2.1
  have hn3 := hI.1.2.2
  refine lv_iload hx hb dL_law_491 (lv_at hl 0 rfl) ?_
  refine lv_bipush (v := (7 : Int32)) hx hb dL_law_493 (by decide) ?_
  refine lv_icmp_ne (tgt := 522) hx hb dL_law_495 (by decide) (fun _ => ?_) (fun _ => ?_)
  · exact lt_522 hL S9 hK hf hk KE ht hI h6 hx6 hC hS hl hn2
  · exact la_7 hL S9 hK hf hk KE ht hI h6 hx6 hC hS hl
set_option maxHeartbeats 4000000 in
theorem lt_405 (hL : LAp a s.heap.size) (S9 : LS9 p m c s args) (hK : wK G s) (hf : c0 ≤ room_1.cells ∧ s0 ≤ room_1.slots) (hk : k < 90) (KE : LE p l e s m args below meth c Q G a b k c0 s0) (ht : t ≤ 12 * k) (hI : JI n t f S) (h6 : S.1 6 = x) (hx6 : isB x) (hC : wC G a S H) (hS : va_S (LF s.heap.size) s.heap H locs) {v w u : Int32} (hl : lv_has ls 15 [(11, .int u), (10, .int w), (9, .int v), (8, .int (nI k)), (0, .ref (b)), (1, .ref (a 0)), (2, .ref (a 20)), (3, .int (nI n.1)), (4, .int (nI n.2.1)), (5, .int (nI n.2.2)), (6, .int f), (7, .int x)]) (hn2 : 2 ≤ n.1) : W p l e room_1 s m args below meth c H locs c0 s0 Q (F0 m 405 ls []) := by
  obtain ⟨hx, hb, hml, hown, hts⟩ := id S9
  have hn1 := hI.1.2.1
  have hn3 := hI.1.2.2
  refine lv_iload hx hb dL_law_405 (lv_at hl 0 rfl) ?_
  refine lv_bipush (v := (6 : Int32)) hx hb dL_law_407 (by decide) ?_
  refine lv_icmp_ne (tgt := 491) hx hb dL_law_409 (by decide) (fun _ => ?_) (fun _ => ?_)
  · exact lt_491 hL S9 hK hf hk KE ht hI h6 hx6 hC hS hl hn2
  · refine lv_iload hx hb dL_law_412 (lv_at hl 9 rfl) ?_
    refine lv_if_le (tgt := 491) hx hb dL_law_414 (by decide) (fun _ => ?_) (fun c9 => ?_)
    · exact lt_491 hL S9 hK hf hk KE ht hI h6 hx6 hC hS hl hn2
    · exact la_6 hL S9 hK hf hk KE ht hI h6 hx6 hC hS hl (nJ_pos (by omega) c9)
set_option maxHeartbeats 4000000 in
theorem lt_373 (hL : LAp a s.heap.size) (S9 : LS9 p m c s args) (hK : wK G s) (hf : c0 ≤ room_1.cells ∧ s0 ≤ room_1.slots) (hk : k < 90) (KE : LE p l e s m args below meth c Q G a b k c0 s0) (ht : t ≤ 12 * k) (hI : JI n t f S) (h6 : S.1 6 = x) (hx6 : isB x) (hC : wC G a S H) (hS : va_S (LF s.heap.size) s.heap H locs) {v w u : Int32} (hl : lv_has ls 15 [(11, .int u), (10, .int w), (9, .int v), (8, .int (nI k)), (0, .ref (b)), (1, .ref (a 0)), (2, .ref (a 20)), (3, .int (nI n.1)), (4, .int (nI n.2.1)), (5, .int (nI n.2.2)), (6, .int f), (7, .int x)]) (hn2 : 2 ≤ n.1) : W p l e room_1 s m args below meth c H locs c0 s0 Q (F0 m 373 ls []) := by
  obtain ⟨hx, hb, hml, hown, hts⟩ := id S9
  have hn1 := hI.1.2.1
  have hn3 := hI.1.2.2
  refine lv_iload hx hb dL_law_373 (lv_at hl 0 rfl) ?_
  refine lv_iconst (v := (5 : Int32)) hx hb dL_law_375 (by decide) ?_
  refine lv_icmp_ne (tgt := 405) hx hb dL_law_376 (by decide) (fun _ => ?_) (fun _ => ?_)
  · exact lt_405 hL S9 hK hf hk KE ht hI h6 hx6 hC hS hl hn2
  · exact la_5 hL S9 hK hf hk KE ht hI h6 hx6 hC hS hl hn2
set_option maxHeartbeats 4000000 in
theorem lt_297 (hL : LAp a s.heap.size) (S9 : LS9 p m c s args) (hK : wK G s) (hf : c0 ≤ room_1.cells ∧ s0 ≤ room_1.slots) (hk : k < 90) (KE : LE p l e s m args below meth c Q G a b k c0 s0) (ht : t ≤ 12 * k) (hI : JI n t f S) (h6 : S.1 6 = x) (hx6 : isB x) (hC : wC G a S H) (hS : va_S (LF s.heap.size) s.heap H locs) {v w u : Int32} (hl : lv_has ls 15 [(11, .int u), (10, .int w), (9, .int v), (8, .int (nI k)), (0, .ref (b)), (1, .ref (a 0)), (2, .ref (a 20)), (3, .int (nI n.1)), (4, .int (nI n.2.1)), (5, .int (nI n.2.2)), (6, .int f), (7, .int x)]) (hn2 : 2 ≤ n.1) : W p l e room_1 s m args below meth c H locs c0 s0 Q (F0 m 297 ls []) := by
  obtain ⟨hx, hb, hml, hown, hts⟩ := id S9
  have hn1 := hI.1.2.1
  have hn3 := hI.1.2.2
  refine lv_iload hx hb dL_law_297 (lv_at hl 0 rfl) ?_
  refine lv_iconst (v := (4 : Int32)) hx hb dL_law_299 (by decide) ?_
  refine lv_icmp_ne (tgt := 373) hx hb dL_law_300 (by decide) (fun _ => ?_) (fun _ => ?_)
  · exact lt_373 hL S9 hK hf hk KE ht hI h6 hx6 hC hS hl hn2
  · exact la_4 hL S9 hK hf hk KE ht hI h6 hx6 hC hS hl hn2
set_option maxHeartbeats 4000000 in
theorem lt_255 (hL : LAp a s.heap.size) (S9 : LS9 p m c s args) (hK : wK G s) (hf : c0 ≤ room_1.cells ∧ s0 ≤ room_1.slots) (hk : k < 90) (KE : LE p l e s m args below meth c Q G a b k c0 s0) (ht : t ≤ 12 * k) (hI : JI n t f S) (h6 : S.1 6 = x) (hx6 : isB x) (hC : wC G a S H) (hS : va_S (LF s.heap.size) s.heap H locs) {v w u : Int32} (hl : lv_has ls 15 [(11, .int u), (10, .int w), (9, .int v), (8, .int (nI k)), (0, .ref (b)), (1, .ref (a 0)), (2, .ref (a 20)), (3, .int (nI n.1)), (4, .int (nI n.2.1)), (5, .int (nI n.2.2)), (6, .int f), (7, .int x)]) (hn2 : 2 ≤ n.1) : W p l e room_1 s m args below meth c H locs c0 s0 Q (F0 m 255 ls []) := by
  obtain ⟨hx, hb, hml, hown, hts⟩ := id S9
  have hn1 := hI.1.2.1
  have hn3 := hI.1.2.2
  refine lv_iload hx hb dL_law_255 (lv_at hl 0 rfl) ?_
  refine lv_iconst (v := (3 : Int32)) hx hb dL_law_257 (by decide) ?_
  refine lv_icmp_ne (tgt := 297) hx hb dL_law_258 (by decide) (fun _ => ?_) (fun _ => ?_)
  · exact lt_297 hL S9 hK hf hk KE ht hI h6 hx6 hC hS hl hn2
  · exact la_3 hL S9 hK hf hk KE ht hI h6 hx6 hC hS hl
set_option maxHeartbeats 4000000 in
theorem lt_199 (hL : LAp a s.heap.size) (S9 : LS9 p m c s args) (hK : wK G s) (hf : c0 ≤ room_1.cells ∧ s0 ≤ room_1.slots) (hk : k < 90) (KE : LE p l e s m args below meth c Q G a b k c0 s0) (ht : t ≤ 12 * k) (hI : JI n t f S) (h6 : S.1 6 = x) (hx6 : isB x) (hC : wC G a S H) (hS : va_S (LF s.heap.size) s.heap H locs) {v w u : Int32} (hl : lv_has ls 15 [(11, .int u), (10, .int w), (9, .int v), (8, .int (nI k)), (0, .ref (b)), (1, .ref (a 0)), (2, .ref (a 20)), (3, .int (nI n.1)), (4, .int (nI n.2.1)), (5, .int (nI n.2.2)), (6, .int f), (7, .int x)]) (hn2 : 2 ≤ n.1) : W p l e room_1 s m args below meth c H locs c0 s0 Q (F0 m 199 ls []) := by
  obtain ⟨hx, hb, hml, hown, hts⟩ := id S9
  have hn1 := hI.1.2.1
  have hn3 := hI.1.2.2
  refine lv_iload hx hb dL_law_199 (lv_at hl 0 rfl) ?_
  refine lv_iconst (v := (2 : Int32)) hx hb dL_law_201 (by decide) ?_
  refine lv_icmp_ne (tgt := 255) hx hb dL_law_202 (by decide) (fun _ => ?_) (fun _ => ?_)
  · exact lt_255 hL S9 hK hf hk KE ht hI h6 hx6 hC hS hl hn2
  · refine lv_iload hx hb dL_law_205 (lv_at hl 9 rfl) ?_
    refine lv_iconst (v := nI 3) hx hb dL_law_207 (by decide) ?_
    refine lv_icmp_ge (tgt := 255) hx hb dL_law_208 (by decide) (fun _ => ?_) (fun c9 => ?_)
    · exact lt_255 hL S9 hK hf hk KE ht hI h6 hx6 hC hS hl hn2
    · exact la_2 hL S9 hK hf hk KE ht hI h6 hx6 hC hS hl (nJ_nle (by omega) (by omega) c9)
set_option maxHeartbeats 4000000 in
theorem lt_114 (hL : LAp a s.heap.size) (S9 : LS9 p m c s args) (hK : wK G s) (hf : c0 ≤ room_1.cells ∧ s0 ≤ room_1.slots) (hk : k < 90) (KE : LE p l e s m args below meth c Q G a b k c0 s0) (ht : t ≤ 12 * k) (hI : JI n t f S) (h6 : S.1 6 = x) (hx6 : isB x) (hC : wC G a S H) (hS : va_S (LF s.heap.size) s.heap H locs) {v w u : Int32} (hl : lv_has ls 15 [(11, .int u), (10, .int w), (9, .int v), (8, .int (nI k)), (0, .ref (b)), (1, .ref (a 0)), (2, .ref (a 20)), (3, .int (nI n.1)), (4, .int (nI n.2.1)), (5, .int (nI n.2.2)), (6, .int f), (7, .int x)]) (hn2 : 2 ≤ n.1) : W p l e room_1 s m args below meth c H locs c0 s0 Q (F0 m 114 ls []) := by
  obtain ⟨hx, hb, hml, hown, hts⟩ := id S9
  have hn1 := hI.1.2.1
  have hn3 := hI.1.2.2
  refine lv_iload hx hb dL_law_114 (lv_at hl 0 rfl) ?_
  refine lv_iconst (v := (1 : Int32)) hx hb dL_law_116 (by decide) ?_
  refine lv_icmp_ne (tgt := 199) hx hb dL_law_117 (by decide) (fun _ => ?_) (fun _ => ?_)
  · exact lt_199 hL S9 hK hf hk KE ht hI h6 hx6 hC hS hl hn2
  · refine lv_iload hx hb dL_law_120 (lv_at hl 8 rfl) ?_
    refine lv_iconst (v := nI 3) hx hb dL_law_122 (by decide) ?_
    refine lv_icmp_ge (tgt := 199) hx hb dL_law_123 (by decide) (fun _ => ?_) (fun c9 => ?_)
    · exact lt_199 hL S9 hK hf hk KE ht hI h6 hx6 hC hS hl hn2
    · exact la_1 hL S9 hK hf hk KE ht hI h6 hx6 hC hS hl (nJ_nle (by omega) (by omega) c9)
set_option maxHeartbeats 4000000 in
theorem lt_68 (hL : LAp a s.heap.size) (S9 : LS9 p m c s args) (hK : wK G s) (hf : c0 ≤ room_1.cells ∧ s0 ≤ room_1.slots) (hk : k < 90) (KE : LE p l e s m args below meth c Q G a b k c0 s0) (ht : t ≤ 12 * k) (hI : JI n t f S) (h6 : S.1 6 = x) (hx6 : isB x) (hC : wC G a S H) (hS : va_S (LF s.heap.size) s.heap H locs) {v w u : Int32} (hl : lv_has ls 15 [(11, .int u), (10, .int w), (9, .int v), (8, .int (nI k)), (0, .ref (b)), (1, .ref (a 0)), (2, .ref (a 20)), (3, .int (nI n.1)), (4, .int (nI n.2.1)), (5, .int (nI n.2.2)), (6, .int f), (7, .int x)])  : W p l e room_1 s m args below meth c H locs c0 s0 Q (F0 m 68 ls []) := by
  obtain ⟨hx, hb, hml, hown, hts⟩ := id S9
  have hn1 := hI.1.2.1
  have hn3 := hI.1.2.2
  refine lv_iload_n hx hb dL_law_68 rfl (lv_at hl 7 rfl) ?_
  refine lv_iconst (v := nI 2) hx hb dL_law_69 (by decide) ?_
  refine lv_icmp_lt (tgt := 84) hx hb dL_law_70 (by decide) (fun c9 => ?_) (fun c9 => ?_)
  · exact la_0 hL S9 hK hf hk KE ht hI h6 hx6 hC hS hl (by have := nJ_lt (k := n.1) (m := 2) (by omega) (by decide) c9; omega)
  · have hn2 := nJ_nlt (by omega) (by omega) c9
    refine lv_iload hx hb dL_law_73 (lv_at hl 0 rfl) ?_
    refine lv_if_ne (tgt := 114) hx hb dL_law_75 (by decide) (fun _ => lt_114 hL S9 hK hf hk KE ht hI h6 hx6 hC hS hl hn2) (fun _ => ?_)
    refine lv_iload_n hx hb dL_law_78 rfl (lv_at hl 7 rfl) ?_
    refine lv_bipush (v := nI 10) hx hb dL_law_79 (by decide) ?_
    refine lv_icmp_ge (tgt := 114) hx hb dL_law_81 (by decide) (fun _ => lt_114 hL S9 hK hf hk KE ht hI h6 hx6 hC hS hl hn2) (fun c8 => ?_)
    exact la_0 hL S9 hK hf hk KE ht hI h6 hx6 hC hS hl (nJ_nle (by omega) (by omega) c8)
end LAR
