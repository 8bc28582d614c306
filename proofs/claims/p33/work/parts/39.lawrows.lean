/-! ===== rows of the law: its world, its calls ===== -/
def LF (z : Nat) : Nat → Prop := fun q => z ≤ q
def LAp (a : Nat → Nat) (z : Nat) : Prop := wInj 21 a ∧ ∀ k, k < 21 → z ≤ a k
theorem kC {G : WG} {a : Nat → Nat} {S : CS} {H H1 : Heap} (h : wC G a S H) (hq : ∀ k, k < 21 → H1[a k]? = H[a k]?) : wC G a S H1 := va_P.kept h (fun k q hk => by
  obtain ⟨h1, rfl⟩ := wl_at hk
  exact hq k h1)
theorem ltC {G : WG} {a : Nat → Nat} {S : CS} {H : Heap} (h : wC G a S H) {k : Nat} (hk : k < 21) : a k < H.size := (h k _ (wl_get hk)).lt
theorem lw_r {v : Int32} {d : Nat} {hi : Int} (h0 : 0 < d) (hd : d ≤ 2000) (hh : (d : Int) ≤ hi) : 1 ≤ (1 + nI (lw v d)).toInt ∧ (1 + nI (lw v d)).toInt ≤ hi := by
  have h1 := lw_lt v h0
  have e : (1 : Int32) + nI (lw v d) = nI (1 + lw v d) := nI_add 1 (lw v d)
  rw [e, nI_toInt (by omega)]
  omega
theorem lw_1 {v hi : Int32} {d : Nat} (h0 : 0 < d) (hd : d ≤ 2000) (hh : (d : Int) ≤ hi.toInt) : (1 : Int32).toInt ≤ (1 + nI (lw v d)).toInt ∧ (1 + nI (lw v d)).toInt ≤ hi.toInt := by
  have h := lw_r (v := v) h0 hd hh
  rw [i_1]
  exact h
theorem lw_0 {v hi : Int32} {d : Nat} (h0 : 0 < d) (hd : d ≤ 2000) (hh : (d : Int) ≤ hi.toInt) : (0 : Int32).toInt ≤ (nI (lw v d)).toInt ∧ (nI (lw v d)).toInt ≤ hi.toInt := by
  have h1 := lw_lt v h0
  rw [i_0, nI_toInt (by omega)]
  omega
theorem nJ_nle {k m : Nat} (hk : k ≤ 2000) (hm : m ≤ 2000) (h : ¬ nI m ≤ nI k) : k < m := by
  rw [i_le, nI_toInt (by omega), nI_toInt (by omega)] at h
  omega
theorem nJ_nlt {k m : Nat} (hk : k ≤ 2000) (hm : m ≤ 2000) (h : ¬ nI k < nI m) : m ≤ k := by
  rw [i_lt, nI_toInt (by omega), nI_toInt (by omega)] at h
  omega
theorem nJ_lt {k m : Nat} (hk : k ≤ 2000) (hm : m ≤ 2000) (h : nI k < nI m) : k < m := by
  rw [i_lt, nI_toInt (by omega), nI_toInt (by omega)] at h
  omega
theorem nJ_pos {k : Nat} (hk : k ≤ 2000) (h : ¬ nI k ≤ 0) : 0 < k := by
  rw [i_le, i_0, nI_toInt (by omega)] at h
  omega
section LRW
variable {p : Program} {l : Launch} {e : Env} {s : State} {m : MethodId} {args : Array Value} {below : List Frame} {meth : Method} {c : Code} {H : Heap} {locs : List Loc} {cells slots : Nat} {Q : State → Prop}
variable {pc : Nat} {ls : Array Slot} {st0 rest As : List Value} {G : WG} {a : Nat → Nat} {S S' : CS} {v : Int32} {index maxL n9 b L k : Nat} {y : MethodName} {bytes : ByteArray} {ret : Option FieldType} {ws : List Cond} {rm : Room} {xs : Nat → Int32}
/-- the machine at the law's body -/
abbrev LS9 (p : Program) (m : MethodId) (c : Code) (s : State) (args : Array Value) : Prop := CallFix p m c cL_law 15 s args wsL_law RL
theorem lwV (hL : LAp a s.heap.size) (S9 : LS9 p m c s args) (hK : wK G s) (hC : wC G a S H) (hS : va_S (LF s.heap.size) s.heap H locs)
    (hMt : gMi l y ws rm G 21 a (CW G.2 a) (.ref (a 0) :: As) S H.size (v, S')) (cw : CallW room_1 s args RL RX3 index y bytes maxL ret ws rm 0 0 n9)
    (hn : As.length = n9) (hsize : ls.size = 15) (hst : st0 = As.reverse ++ .ref (a 0) :: rest) (hW : (rest.map fun v => v.category).sum ≤ 8) (hdg : decode cL_law pc = .ok (.invokevirtual index, 3)) (hf : cells ≤ room_1.cells ∧ slots ≤ room_1.slots)
    (kk : ∀ (H1 : Heap) (locs1 : List Loc), wC G a S' H1 → va_S (LF s.heap.size) s.heap H1 locs1 → W p l e room_1 s m args below meth c H1 locs1 cells slots Q (F0 m (pc + 3) ls (.int v :: rest))) :
    W p l e room_1 s m args below meth c H locs cells slots Q (F0 m pc ls st0) := by
  subst hst
  have hfree : ∀ q, wA 21 a H.size q → LF s.heap.size q := fun q h => h.elim (fun ⟨k, hk, e⟩ => by rw [e]; exact hL.2 k hk) (fun h => Nat.le_trans hS.1 h)
  refine va_calli (va_runV (g := F0 m pc ls (As.reverse ++ .ref (a 0) :: rest)) S9 hMt cw ⟨gPre_bl, crM hK hC, fun U hU hW => ⟨rfl, by rw [hU], by rw [hU]; exact hC, va_K.moved hW.alike hK⟩⟩ rfl hn hsize rfl (lv_room hW) hdg hf) hS (fun q _ h => hfree q h) hfree (fun r u t H1 locs1 ht _ hw hB _ hk hS1 => ?_)
  obtain ⟨rfl, rfl⟩ := Prod.mk.inj hw
  exact kk H1 locs1 (by rw [← ht]; exact hB) hS1
theorem lwVz (hL : LAp a s.heap.size) (S9 : LS9 p m c s args) (hK : wK G s) (hC : wC G a S H) (hS : va_S (LF s.heap.size) s.heap H locs)
    (hMt : gMz l y ws rm G 21 a (CW G.2 a) (.ref (a 0) :: As) S H.size (v, S')) (cw : CallW room_1 s args RL RX3 index y bytes maxL ret ws rm 0 0 n9)
    (hn : As.length = n9) (hsize : ls.size = 15) (hst : st0 = As.reverse ++ .ref (a 0) :: rest) (hW : (rest.map fun v => v.category).sum ≤ 8) (hdg : decode cL_law pc = .ok (.invokevirtual index, 3)) (hf : cells ≤ room_1.cells ∧ slots ≤ room_1.slots)
    (kk : ∀ (H1 : Heap) (locs1 : List Loc), isB v → wC G a S' H1 → va_S (LF s.heap.size) s.heap H1 locs1 → W p l e room_1 s m args below meth c H1 locs1 cells slots Q (F0 m (pc + 3) ls (.int v :: rest))) :
    W p l e room_1 s m args below meth c H locs cells slots Q (F0 m pc ls st0) := by
  subst hst
  have hfree : ∀ q, wA 21 a H.size q → LF s.heap.size q := fun q h => h.elim (fun ⟨k, hk, e⟩ => by rw [e]; exact hL.2 k hk) (fun h => Nat.le_trans hS.1 h)
  refine va_calli (va_runV (g := F0 m pc ls (As.reverse ++ .ref (a 0) :: rest)) S9 hMt cw ⟨gPre_bl, crM hK hC, fun U hU hW => ⟨rfl, by rw [hU], by rw [hU]; exact hC, va_K.moved hW.alike hK⟩⟩ rfl hn hsize rfl (lv_room hW) hdg hf) hS (fun q _ h => hfree q h) hfree (fun r u t H1 locs1 ht _ hw hB _ hk hS1 => ?_)
  obtain ⟨hw1, hw2⟩ := hw
  obtain ⟨rfl, rfl⟩ := Prod.mk.inj hw1
  exact kk H1 locs1 hw2 (by rw [← ht]; exact hB) hS1
theorem lwSi (hL : LAp a s.heap.size) (S9 : LS9 p m c s args) (hK : wK G s) (hC : wC G a S H) (hS : va_S (LF s.heap.size) s.heap H locs)
    (hMt : gMi l y ws rm G 21 a (CW G.2 a) As S H.size (v, S')) (cw : CallB room_1 s args RL index y bytes maxL ret ws rm 0 0 n9 ∧ (Cond.static y).before args s = true)
    (hn : As.length = n9) (hsize : ls.size = 15) (hst : st0 = As.reverse ++ rest) (hW : (rest.map fun v => v.category).sum ≤ 8) (hdg : decode cL_law pc = .ok (.invokestatic index, 3)) (hf : cells ≤ room_1.cells ∧ slots ≤ room_1.slots)
    (kk : ∀ (H1 : Heap) (locs1 : List Loc), wC G a S' H1 → va_S (LF s.heap.size) s.heap H1 locs1 → W p l e room_1 s m args below meth c H1 locs1 cells slots Q (F0 m (pc + 3) ls (.int v :: rest))) :
    W p l e room_1 s m args below meth c H locs cells slots Q (F0 m pc ls st0) := by
  subst hst
  have hfree : ∀ q, wA 21 a H.size q → LF s.heap.size q := fun q h => h.elim (fun ⟨k, hk, e⟩ => by rw [e]; exact hL.2 k hk) (fun h => Nat.le_trans hS.1 h)
  refine va_calli (va_runS (g := F0 m pc ls (As.reverse ++ rest)) S9 hMt cw ⟨gPre_bl, fun U hU hW => ⟨rfl, by rw [hU], by rw [hU]; exact hC, va_K.moved hW.alike hK⟩⟩ rfl hn hsize rfl (lv_room hW) hdg hf) hS (fun q _ h => hfree q h) hfree (fun r u t H1 locs1 ht _ hw hB _ hk hS1 => ?_)
  obtain ⟨rfl, rfl⟩ := Prod.mk.inj hw
  exact kk H1 locs1 (by rw [← ht]; exact hB) hS1
theorem lwSz (hL : LAp a s.heap.size) (S9 : LS9 p m c s args) (hK : wK G s) (hC : wC G a S H) (hS : va_S (LF s.heap.size) s.heap H locs)
    (hMt : gMz l y ws rm G 21 a (CW G.2 a) As S H.size (v, S')) (cw : CallB room_1 s args RL index y bytes maxL ret ws rm 0 0 n9 ∧ (Cond.static y).before args s = true)
    (hn : As.length = n9) (hsize : ls.size = 15) (hst : st0 = As.reverse ++ rest) (hW : (rest.map fun v => v.category).sum ≤ 8) (hdg : decode cL_law pc = .ok (.invokestatic index, 3)) (hf : cells ≤ room_1.cells ∧ slots ≤ room_1.slots)
    (kk : ∀ (H1 : Heap) (locs1 : List Loc), isB v → wC G a S' H1 → va_S (LF s.heap.size) s.heap H1 locs1 → W p l e room_1 s m args below meth c H1 locs1 cells slots Q (F0 m (pc + 3) ls (.int v :: rest))) :
    W p l e room_1 s m args below meth c H locs cells slots Q (F0 m pc ls st0) := by
  subst hst
  have hfree : ∀ q, wA 21 a H.size q → LF s.heap.size q := fun q h => h.elim (fun ⟨k, hk, e⟩ => by rw [e]; exact hL.2 k hk) (fun h => Nat.le_trans hS.1 h)
  refine va_calli (va_runS (g := F0 m pc ls (As.reverse ++ rest)) S9 hMt cw ⟨gPre_bl, fun U hU hW => ⟨rfl, by rw [hU], by rw [hU]; exact hC, va_K.moved hW.alike hK⟩⟩ rfl hn hsize rfl (lv_room hW) hdg hf) hS (fun q _ h => hfree q h) hfree (fun r u t H1 locs1 ht _ hw hB _ hk hS1 => ?_)
  obtain ⟨hw1, hw2⟩ := hw
  obtain ⟨rfl, rfl⟩ := Prod.mk.inj hw1
  exact kk H1 locs1 hw2 (by rw [← ht]; exact hB) hS1
/-- a cell of the script, or a number of its place: some int -/
def cPre (b L : Nat) (xs : Nat → Int32) (sz : Nat) : State → Prop := fun U => U.heap.size = sz ∧ va_X b L xs U U.heap ∧ b < sz
theorem cPre_bl {b L sz : Nat} {xs : Nat → Int32} {av : List Value} : FrameBlind (va_Pc av (cPre b L xs sz)) := fun a U g mk ⟨h0, h1, h2, h3⟩ =>
  ⟨h0, h1, va_X.moved (u := U) (U := U.calling g mk a) (Vm.Alike.refl U.vm) h2, h3⟩
end LRW
set_option maxHeartbeats 4000000 in
theorem c_L_cell (l : Launch) (b L k : Nat) (xs : Nat → Int32) (hLL : L ≤ 260) (hk : k ≤ 1000) (sz : Nat) : Met l yL_cell wsL_cell ({ frames := 0, cells := 0, slots := 0, locals := 0 }) (va_Pc [.ref b, .int (nI k)] (cPre b L xs sz)) (va_Qi (fun _ (_ : Unit) => True) (fun _ _ => True) (fun q => sz ≤ q)) 0 0 (fun q => sz ≤ q) := by
  refine Met.ofW (cc := cL_cell) (maxL := 2) (ret := (some .int)) (by decide) rfl ?_
  intro p e s m args below meth c s₁ B hml hv
  obtain ⟨rfl, rfl, hX, hbl⟩ := hv
  have hx := B.exec
  have hb := B.bytes
  have hr := B.returns
  have hlocks := B.notSynchronized
  have hS : va_S (fun q => s.heap.size ≤ q) s.heap s.heap [] := va_S.rf
  have hbA : ¬ s.heap.size ≤ b := Nat.not_le.mpr hbl
  have hl := lv_entry ([.ref b, .int (nI k)]) (n := 2) (Nat.le_of_ble_eq_true rfl)
  rw [lg_entry_eq]
  generalize (lg_sl ([.ref b, .int (nI k)] : List Value) ++ List.replicate (2 - (lg_sl ([.ref b, .int (nI k)] : List Value)).length) Slot.unset).toArray = ls at hl ⊢
  have hl : lv_has ls 2 [(0, .ref b), (1, .int (nI k))] := hl
  show W p l e ({ frames := 0, cells := 0, slots := 0, locals := 0 } : Room) s m ([.ref b, .int (nI k)] : List Value).toArray below meth c s.heap [] 0 0 (MQ below (va_Qi (fun _ (_ : Unit) => True) (fun _ _ => True) (fun q => s.heap.size ≤ q)) ([.ref b, .int (nI k)] : List Value).toArray s 0 0 (fun q => s.heap.size ≤ q)) (F0 m 0 ls [])
  have fin : ∀ (v : Int32), W p l e ({ frames := 0, cells := 0, slots := 0, locals := 0 } : Room) s m ([.ref b, .int (nI k)] : List Value).toArray below meth c s.heap [] 0 0 (MQ below (va_Qi (fun _ (_ : Unit) => True) (fun _ _ => True) (fun q => s.heap.size ≤ q)) ([.ref b, .int (nI k)] : List Value).toArray s 0 0 (fun q => s.heap.size ≤ q)) (F0 m 24 ls [.int v]) := fun v =>
    W.iret (v := v) hx hb hr (fun t ht hW => ⟨⟨v, (), rfl, trivial, trivial⟩, hS.F ht⟩) hS.2.2 dL_cell_24 hlocks
  refine lv_iload_n hx hb dL_cell_0 rfl (lv_at hl 1 rfl) ?_
  refine lv_aload_n hx hb dL_cell_1 rfl (lv_at hl 0 rfl) ?_
  refine va_slen hx hb hX hbl hbA hS dL_cell_2 ?_
  refine lv_icmp_ge (tgt := 12) hx hb dL_cell_3 (by decide) (fun _ => ?_) (fun c1 => ?_)
  · refine lv_sipush (v := 7919) hx hb dL_cell_12 (by decide) ?_
    refine lv_iload_n hx hb dL_cell_15 rfl (lv_at hl 1 rfl) ?_
    refine lv_iconst (v := 3) hx hb dL_cell_16 (by decide) ?_
    refine lv_iadd hx hb dL_cell_17 ?_
    refine lv_imul hx hb dL_cell_18 ?_
    refine lv_iload_n hx hb dL_cell_19 rfl (lv_at hl 1 rfl) ?_
    refine lv_bipush (v := 11) hx hb dL_cell_20 (by decide) ?_
    refine lv_iadd hx hb dL_cell_22 ?_
    refine lv_imul hx hb dL_cell_23 ?_
    exact fin _
  · have c2 : k < L := by
      have e1 : (Int32.ofNat L).toInt = (L : Int) := nI_toInt (n := L) (by omega)
      rw [i_le, e1, nI_toInt (by omega)] at c1
      omega
    refine lv_aload_n hx hb dL_cell_6 rfl (lv_at hl 0 rfl) ?_
    refine lv_iload_n hx hb dL_cell_7 rfl (lv_at hl 1 rfl) ?_
    refine va_sld hx hb hX hbl hbA hS (vp_in_nI c2 (by omega)) dL_cell_8 ?_
    refine lv_goto (tgt := 24) hx hb dL_cell_9 (by decide) ?_
    exact fin _
section LRC
variable {p : Program} {l : Launch} {e : Env} {s : State} {m : MethodId} {args : Array Value} {below : List Frame} {meth : Method} {c : Code} {H : Heap} {locs : List Loc} {cells slots : Nat} {Q : State → Prop}
variable {pc : Nat} {ls : Array Slot} {rest : List Value} {G : WG} {a : Nat → Nat} {S : CS} {b L k : Nat} {xs : Nat → Int32}
theorem lwCell (hL : LAp a s.heap.size) (S9 : LS9 p m c s args) (hK : wK G s) (hX : va_X b L xs s s.heap) (hbl : b < s.heap.size) (hLL : L ≤ 260) (hk : k ≤ 1000) (hC : wC G a S H) (hS : va_S (LF s.heap.size) s.heap H locs)
    (hsize : ls.size = 15) (hW : (rest.map fun v => v.category).sum ≤ 8) (hdg : decode cL_law pc = .ok (.invokestatic 58, 3)) (hf : cells ≤ room_1.cells ∧ slots ≤ room_1.slots)
    (kk : ∀ (r : Int32) (H1 : Heap) (locs1 : List Loc), wC G a S H1 → va_S (LF s.heap.size) s.heap H1 locs1 → W p l e room_1 s m args below meth c H1 locs1 cells slots Q (F0 m (pc + 3) ls (.int r :: rest))) :
    W p l e room_1 s m args below meth c H locs cells slots Q (F0 m pc ls (.int (nI k) :: .ref b :: rest)) := by
  have S9' := S9
  obtain ⟨hx, hb, hml, hown, hts⟩ := S9'
  have hbA : ¬ LF s.heap.size b := Nat.not_le.mpr hbl
  have hX1 : va_X b L xs s H := hX.kept (hS.2.1 b hbl hbA)
  have hbH : b < H.size := Nat.lt_of_lt_of_le hbl hS.1
  refine va_calli (va_runS (g := F0 m pc ls (([.ref b, .int (nI k)] : List Value).reverse ++ rest)) S9 (c_L_cell l b L k xs hLL hk H.size) (va_cwS 2 hts gL_law_L_cell rfl rfl rfl (by decide +kernel) ⟨Nat.le_of_ble_eq_true rfl, Nat.le_of_ble_eq_true rfl⟩) ⟨cPre_bl, fun U hU hW => ⟨rfl, by rw [hU], by rw [hU]; exact hX1.moved hW.alike, hbH⟩⟩ rfl rfl hsize rfl (lv_room hW) hdg hf) hS (fun q _ h => Nat.le_trans hS.1 h) (fun q h => Nat.le_trans hS.1 h) (fun r u t H1 locs1 ht _ hw hB _ hk9 hS1 => ?_)
  exact kk r H1 locs1 (kC hC (fun j hj => hk9 (a j) (ltC hC hj) (fun h => by have := ltC hC hj; omega))) hS1
end LRC
