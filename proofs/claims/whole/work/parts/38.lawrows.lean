/-! ===== rows of the law: its world, its calls, its ends ===== -/
def LF (z : Nat) : Nat → Prop := fun q => z ≤ q
def LAp (a bb : Nat → Nat) (o z : Nat) : Prop := wInj 20 a ∧ wInj 27 bb ∧ (∀ i j, i < 20 → j < 27 → a i ≠ bb j) ∧ (∀ k, k < 20 → o ≠ a k) ∧ (∀ k, k < 27 → o ≠ bb k) ∧ (∀ k, k < 20 → z ≤ a k) ∧ (∀ k, k < 27 → z ≤ bb k) ∧ z ≤ o
theorem kC {G : WG} {a : Nat → Nat} {S : CS} {H H1 : Heap} (h : wC G a S H) (hq : ∀ k, k < 20 → H1[a k]? = H[a k]?) : wC G a S H1 := va_P.kept h (fun k q hk => by
  obtain ⟨h1, rfl⟩ := wl_at hk
  exact hq k h1)
theorem kM {G : WG} {b : Nat → Nat} {n : Nat × Nat × Nat} {M : MS} {H H1 : Heap} (h : wM G b n M H) (hq : ∀ k, k < 27 → H1[b k]? = H[b k]?) : wM G b n M H1 := va_P.kept h (fun k q hk => by
  obtain ⟨h1, rfl⟩ := wl_at hk
  exact hq k h1)
theorem ltC {G : WG} {a : Nat → Nat} {S : CS} {H : Heap} (h : wC G a S H) {k : Nat} (hk : k < 20) : a k < H.size := (h k _ (wl_get hk)).lt
theorem ltM {G : WG} {b : Nat → Nat} {n : Nat × Nat × Nat} {M : MS} {H : Heap} (h : wM G b n M H) {k : Nat} (hk : k < 27) : b k < H.size := (h k _ (wl_get hk)).lt
def bz (v : Int32) : Int32 := if v = 0 then 0 else 1
theorem bz_B (v : Int32) : isB (bz v) := by
  unfold bz
  split
  · exact isB_0
  · exact isB_1
theorem lg_same (x : Int64) : lg_cmp x x = 0 := by
  unfold lg_cmp
  rw [if_neg (by rw [gt_iff_lt, Int64.lt_iff_toInt_lt]; omega), if_pos rfl]
section LR
variable {p : Program} {l : Launch} {e : Env} {s : State} {m : MethodId} {args : Array Value} {below : List Frame} {meth : Method} {c : Code} {H : Heap} {locs : List Loc} {cells slots : Nat} {Q : State → Prop}
variable {bytes : ByteArray} {pc : Nat} {ls : Array Slot} {st0 rest As : List Value} {G : WG} {a bb : Nat → Nat} {o : Nat} {S : CS} {n : Nat × Nat × Nat} {M : MS} {f : Nat → Int64} {C : String} {index maxL n9 mc ms : Nat} {y : MethodName} {ret : Option FieldType} {ws : List Cond} {rm : Room}
/-- the machine at the law's body -/
abbrev LS9 (p : Program) (m : MethodId) (c : Code) (s : State) (args : Array Value) : Prop := CallFix p m c cL_law 7 s args wsL_law RL
theorem lwM {σ : Type} {wf : σ → va_W} {u0 : σ} {F : Int32 × σ} (hL : LAp a bb o s.heap.size) (S9 : LS9 p m c s args) (hK : wK G s) (hC : wC G a S H) (hM : va_P G.1 vwCl (wf u0) H) (hO : va_P G.1 vwCl (lO G o f) H) (hS : va_S (LF s.heap.size) s.heap H locs)
    (hMt : gMi l y ws rm G 27 bb wf (.ref (bb 0) :: As) u0 H.size F) (cw : CallW room_1 s args RL RX4 index y bytes maxL ret ws rm 0 0 n9)
    (hr : ∃ cell : Cell, H[bb 0]? = some cell ∧ cell.vm.isStatics = false ∧ s.vm.findClass RX4 = some cell.cls) (hn : As.length = n9) (hsize : ls.size = 7) (hst : st0 = As.reverse ++ .ref (bb 0) :: rest) (hW : (rest.map fun v => v.category).sum ≤ 8) (hdg : decode cL_law pc = .ok (.invokevirtual index, 3)) (hf : cells ≤ room_1.cells ∧ slots ≤ room_1.slots)
    (kk : ∀ (p1 : Int32 × σ) (H1 : Heap) (locs1 : List Loc), p1 = F → wC G a S H1 → va_P G.1 vwCl (wf p1.2) H1 → va_P G.1 vwCl (lO G o f) H1 → va_S (LF s.heap.size) s.heap H1 locs1 → W p l e room_1 s m args below meth c H1 locs1 cells slots Q (F0 m (pc + 3) ls (.int p1.1 :: rest))) :
    W p l e room_1 s m args below meth c H locs cells slots Q (F0 m pc ls st0) := by
  subst hst
  obtain ⟨i1, i2, i3, i4, i5, i6, i7, i8⟩ := hL
  have hfree : ∀ q, wA 27 bb H.size q → LF s.heap.size q := fun q h => h.elim (fun ⟨k, hk, e⟩ => by rw [e]; exact i7 k hk) (fun h => Nat.le_trans hS.1 h)
  have ho := lO_lt hO
  refine va_calli (va_runV (g := F0 m pc ls (As.reverse ++ .ref (bb 0) :: rest)) S9 hMt cw ⟨gPre_bl, hr, fun U hU hW => ⟨rfl, by rw [hU], by rw [hU]; exact hM, va_K.moved hW.alike hK⟩⟩ rfl hn hsize rfl (lv_room hW) hdg hf) hS (fun q _ h => hfree q h) hfree (fun r u t H1 locs1 ht _ hw hB _ hk hS1 => ?_)
  refine kk (r, u) H1 locs1 hw (kC hC (fun k hk9 => hk (a k) (ltC hC hk9) (fun h => ?_))) (by rw [← ht]; exact hB) (lO_kept hO (hk o ho (fun h => ?_))) hS1
  · rcases h with ⟨j, hj, e⟩ | h
    · exact i3 k j hk9 hj e
    · have := ltC hC hk9; omega
  · rcases h with ⟨j, hj, e⟩ | h
    · exact i5 j hj e
    · omega
theorem lwMz {F : Int32 × MS} (hL : LAp a bb o s.heap.size) (S9 : LS9 p m c s args) (hK : wK G s) (hC : wC G a S H) (hM : wM G bb n M H) (hO : va_P G.1 vwCl (lO G o f) H) (hS : va_S (LF s.heap.size) s.heap H locs)
    (hMt : gMz l y ws rm G 27 bb (MW G.2 bb n) (.ref (bb 0) :: As) M H.size F) (cw : CallW room_1 s args RL RX4 index y bytes maxL ret ws rm 0 0 n9)
    (hn : As.length = n9) (hsize : ls.size = 7) (hst : st0 = As.reverse ++ .ref (bb 0) :: rest) (hW : (rest.map fun v => v.category).sum ≤ 8) (hdg : decode cL_law pc = .ok (.invokevirtual index, 3)) (hf : cells ≤ room_1.cells ∧ slots ≤ room_1.slots)
    (kk : ∀ (p1 : Int32 × MS) (H1 : Heap) (locs1 : List Loc), p1 = F → wC G a S H1 → wM G bb n p1.2 H1 → va_P G.1 vwCl (lO G o f) H1 → va_S (LF s.heap.size) s.heap H1 locs1 → W p l e room_1 s m args below meth c H1 locs1 cells slots Q (F0 m (pc + 3) ls (.int p1.1 :: rest))) :
    W p l e room_1 s m args below meth c H locs cells slots Q (F0 m pc ls st0) := by
  subst hst
  obtain ⟨i1, i2, i3, i4, i5, i6, i7, i8⟩ := hL
  have hfree : ∀ q, wA 27 bb H.size q → LF s.heap.size q := fun q h => h.elim (fun ⟨k, hk, e⟩ => by rw [e]; exact i7 k hk) (fun h => Nat.le_trans hS.1 h)
  have ho := lO_lt hO
  refine va_calli (va_runV (g := F0 m pc ls (As.reverse ++ .ref (bb 0) :: rest)) S9 hMt cw ⟨gPre_bl, mrO hK hM, fun U hU hW => ⟨rfl, by rw [hU], by rw [hU]; exact hM, va_K.moved hW.alike hK⟩⟩ rfl hn hsize rfl (lv_room hW) hdg hf) hS (fun q _ h => hfree q h) hfree (fun r u t H1 locs1 ht _ hw hB _ hk hS1 => ?_)
  refine kk (r, u) H1 locs1 hw.1 (kC hC (fun k hk9 => hk (a k) (ltC hC hk9) (fun h => ?_))) (by rw [← ht]; exact hB) (lO_kept hO (hk o ho (fun h => ?_))) hS1
  · rcases h with ⟨j, hj, e⟩ | h
    · exact i3 k j hk9 hj e
    · have := ltC hC hk9; omega
  · rcases h with ⟨j, hj, e⟩ | h
    · exact i5 j hj e
    · omega
theorem lwC {F : Int32 × CS} (hL : LAp a bb o s.heap.size) (S9 : LS9 p m c s args) (hK : wK G s) (hC : wC G a S H) (hM : wM G bb n M H) (hO : va_P G.1 vwCl (lO G o f) H) (hS : va_S (LF s.heap.size) s.heap H locs)
    (hMt : gMi l y ws rm G 20 a (CW G.2 a) (.ref (a 0) :: As) S H.size F) (cw : CallW room_1 s args RL RX3 index y bytes maxL ret ws rm 0 0 n9)
    (hn : As.length = n9) (hsize : ls.size = 7) (hst : st0 = As.reverse ++ .ref (a 0) :: rest) (hW : (rest.map fun v => v.category).sum ≤ 8) (hdg : decode cL_law pc = .ok (.invokevirtual index, 3)) (hf : cells ≤ room_1.cells ∧ slots ≤ room_1.slots)
    (kk : ∀ (p1 : Int32 × CS) (H1 : Heap) (locs1 : List Loc), p1 = F → wC G a p1.2 H1 → wM G bb n M H1 → va_P G.1 vwCl (lO G o f) H1 → va_S (LF s.heap.size) s.heap H1 locs1 → W p l e room_1 s m args below meth c H1 locs1 cells slots Q (F0 m (pc + 3) ls (.int p1.1 :: rest))) :
    W p l e room_1 s m args below meth c H locs cells slots Q (F0 m pc ls st0) := by
  subst hst
  obtain ⟨i1, i2, i3, i4, i5, i6, i7, i8⟩ := hL
  have hfree : ∀ q, wA 20 a H.size q → LF s.heap.size q := fun q h => h.elim (fun ⟨k, hk, e⟩ => by rw [e]; exact i6 k hk) (fun h => Nat.le_trans hS.1 h)
  have ho := lO_lt hO
  refine va_calli (va_runV (g := F0 m pc ls (As.reverse ++ .ref (a 0) :: rest)) S9 hMt cw ⟨gPre_bl, crM hK hC, fun U hU hW => ⟨rfl, by rw [hU], by rw [hU]; exact hC, va_K.moved hW.alike hK⟩⟩ rfl hn hsize rfl (lv_room hW) hdg hf) hS (fun q _ h => hfree q h) hfree (fun r u t H1 locs1 ht _ hw hB _ hk hS1 => ?_)
  refine kk (r, u) H1 locs1 hw (by rw [← ht]; exact hB) (kM hM (fun k hk9 => hk (bb k) (ltM hM hk9) (fun h => ?_))) (lO_kept hO (hk o ho (fun h => ?_))) hS1
  · rcases h with ⟨j, hj, e⟩ | h
    · exact i3 j k hj hk9 e.symm
    · have := ltM hM hk9; omega
  · rcases h with ⟨j, hj, e⟩ | h
    · exact i4 j hj e
    · omega
theorem lwCz {F : Int32 × CS} (hL : LAp a bb o s.heap.size) (S9 : LS9 p m c s args) (hK : wK G s) (hC : wC G a S H) (hM : wM G bb n M H) (hO : va_P G.1 vwCl (lO G o f) H) (hS : va_S (LF s.heap.size) s.heap H locs)
    (hMt : gMz l y ws rm G 20 a (CW G.2 a) (.ref (a 0) :: As) S H.size F) (cw : CallW room_1 s args RL RX3 index y bytes maxL ret ws rm 0 0 n9)
    (hn : As.length = n9) (hsize : ls.size = 7) (hst : st0 = As.reverse ++ .ref (a 0) :: rest) (hW : (rest.map fun v => v.category).sum ≤ 8) (hdg : decode cL_law pc = .ok (.invokevirtual index, 3)) (hf : cells ≤ room_1.cells ∧ slots ≤ room_1.slots)
    (kk : ∀ (p1 : Int32 × CS) (H1 : Heap) (locs1 : List Loc), p1 = F → wC G a p1.2 H1 → wM G bb n M H1 → va_P G.1 vwCl (lO G o f) H1 → va_S (LF s.heap.size) s.heap H1 locs1 → W p l e room_1 s m args below meth c H1 locs1 cells slots Q (F0 m (pc + 3) ls (.int p1.1 :: rest))) :
    W p l e room_1 s m args below meth c H locs cells slots Q (F0 m pc ls st0) := by
  subst hst
  obtain ⟨i1, i2, i3, i4, i5, i6, i7, i8⟩ := hL
  have hfree : ∀ q, wA 20 a H.size q → LF s.heap.size q := fun q h => h.elim (fun ⟨k, hk, e⟩ => by rw [e]; exact i6 k hk) (fun h => Nat.le_trans hS.1 h)
  have ho := lO_lt hO
  refine va_calli (va_runV (g := F0 m pc ls (As.reverse ++ .ref (a 0) :: rest)) S9 hMt cw ⟨gPre_bl, crM hK hC, fun U hU hW => ⟨rfl, by rw [hU], by rw [hU]; exact hC, va_K.moved hW.alike hK⟩⟩ rfl hn hsize rfl (lv_room hW) hdg hf) hS (fun q _ h => hfree q h) hfree (fun r u t H1 locs1 ht _ hw hB _ hk hS1 => ?_)
  refine kk (r, u) H1 locs1 hw.1 (by rw [← ht]; exact hB) (kM hM (fun k hk9 => hk (bb k) (ltM hM hk9) (fun h => ?_))) (lO_kept hO (hk o ho (fun h => ?_))) hS1
  · rcases h with ⟨j, hj, e⟩ | h
    · exact i3 j k hj hk9 e.symm
    · have := ltM hM hk9; omega
  · rcases h with ⟨j, hj, e⟩ | h
    · exact i4 j hj e
    · omega
/-- what throws need, at the law's start -/
def lEnv (s : State) : Prop := xEnv (LF s.heap.size) s ∧ va_Nc (exN 1) (exN 0) s ∧ va_Nc (exN 0) (exN 2) s
theorem lwH {F : (Int32 × CS) ⊕ (Nat × CS)} {r : Nat → Int32} {hh : List (Nat × Nat × Nat × Nat)} (hL : LAp a bb o s.heap.size) (S9 : LS9 p m c s args) (hK : wK G s) (hE : lEnv s) (hC : wC G a S H) (hM : wM G bb n M H) (hO : va_P G.1 vwCl (lO G o f) H) (hS : va_S (LF s.heap.size) s.heap H locs)
    (hMt : hMi l y ws rm mc ms G a o As S f H.size r F) (cw : vx_CSW room_1 s args RL index y bytes maxL ret hh ws rm mc ms n9)
    (hn : As.length = n9) (hsize : ls.size = 7) (hst : st0 = As.reverse ++ rest) (hW : (rest.map fun v => v.category).sum ≤ 8) (hdg : decode cL_law pc = .ok (.invokestatic index, 3)) (hf : cells + mc ≤ room_1.cells ∧ slots + ms ≤ room_1.slots)
    (kk : ∀ (H1 : Heap) (locs1 : List Loc), wC G a (hR r F f).2.1 H1 → wM G bb n M H1 → va_P G.1 vwCl (lO G o (hR r F f).2.2) H1 → va_S (LF s.heap.size) s.heap H1 locs1 → W p l e room_1 s m args below meth c H1 locs1 (cells + mc) (slots + ms) Q (F0 m (pc + 3) ls (.int (hR r F f).1 :: rest))) :
    W p l e room_1 s m args below meth c H locs cells slots Q (F0 m pc ls st0) := by
  subst hst
  obtain ⟨i1, i2, i3, i4, i5, i6, i7, i8⟩ := hL
  obtain ⟨⟨x1, x2, x3, x9⟩, x4, x5⟩ := hE
  have hfa : ∀ q, wA 20 a H.size q → LF s.heap.size q := fun q h => h.elim (fun ⟨k, hk, e⟩ => by rw [e]; exact i6 k hk) (fun h => Nat.le_trans hS.1 h)
  have hfree : ∀ q, lA a o H.size q → LF s.heap.size q := fun q h => h.elim (hfa q) (fun h => by rw [h]; exact i8)
  have ho := lO_lt hO
  refine va_calli (vx_runSW (g := F0 m pc ls (As.reverse ++ rest)) S9 hMt cw ⟨lPre_bl, fun U hU hW => ⟨rfl, by rw [hU], by rw [hU]; exact ⟨hC, hO⟩, va_K.moved hW.alike hK, ⟨?_, ?_, fun q hq => ?_, xB_vm hW.alike x9⟩, va_Nc.moved hW.alike x4, va_Nc.moved hW.alike x5⟩⟩ rfl hn hsize rfl (lv_room hW) hdg hf) hS (fun q _ h => hfree q h) hfree (fun r2 u t H1 locs1 ht _ hw hB _ hk hS1 => ?_)
  · rw [hU]
    exact vx_Zq.moved hW.alike ((x1.kept hS.2.1).narrow hfa)
  · rw [hU]
    exact vx_Zq.moved hW.alike ((x2.kept hS.2.1).narrow hfa)
  · obtain ⟨sa, h4⟩ := x3 q hq
    exact ⟨sa, h4.warm hW⟩
  · rw [ht] at hB
    have e1 : r2 = (hR r F f).1 := by rw [← hw]
    have e2 : u = (hR r F f).2 := by rw [← hw]
    subst e1
    subst e2
    refine kk H1 locs1 hB.1 (kM hM (fun k hk9 => hk (bb k) (ltM hM hk9) (fun h => ?_))) hB.2 hS1
    rcases h with (⟨j, hj, e⟩ | h) | h
    · exact i3 j k hj hk9 e.symm
    · have := ltM hM hk9; omega
    · exact i5 k hk9 h.symm
/-- script[i + j] -/
theorem lwArg {b i j L : Nat} {xs : Nat → Int32} {w : Int} {v : Int32} (hx : p.tables.exec = Jvm.exec) (hb : c.code = cL_law) (hX : va_X b L xs s s.heap) (hbl : b < s.heap.size) (hS : va_S (LF s.heap.size) s.heap H locs) (hLL : L ≤ 2048) (hj : i + j < L) (h0 : ls[0]? = some (.val (.ref b))) (h4 : ls[4]? = some (.val (.int (nI i)))) (hv : Int32.ofInt w = v) (hvj : v = nI j)
    (d0 : decode cL_law pc = .ok (.aload_n 0, 1)) (d1 : decode cL_law (pc + 1) = .ok (.iload 4, 2)) (d2 : decode cL_law (pc + 3) = .ok (.iconst w, 1)) (d3 : decode cL_law (pc + 4) = .ok (.iadd, 1)) (d4 : decode cL_law (pc + 5) = .ok (.iaload, 1))
    (kk : W p l e room_1 s m args below meth c H locs cells slots Q (F0 m (pc + 6) ls (.int (xs (i + j)) :: rest))) : W p l e room_1 s m args below meth c H locs cells slots Q (F0 m pc ls rest) := by
  have hbA : ¬ LF s.heap.size b := Nat.not_le.mpr hbl
  refine lv_aload_n hx hb d0 rfl h0 ?_
  refine lv_iload hx hb d1 h4 ?_
  refine lv_iconst (v := v) hx hb d2 hv ?_
  refine lv_iadd hx hb d3 ?_
  rw [hvj, nI_add]
  refine va_sld hx hb hX hbl hbA hS (vp_in_nI hj (by omega)) d4 ?_
  rw [nI_clamp (by omega)]
  exact kk
/-- .. != 0 -/
theorem lwBit {v : Int32} (hx : p.tables.exec = Jvm.exec) (hb : c.code = cL_law) (d0 : decode cL_law pc = .ok (.ifCond .eq 7, 3)) (d3 : decode cL_law (pc + 3) = .ok (.iconst 1, 1)) (d4 : decode cL_law (pc + 4) = .ok (.goto 4, 3)) (d7 : decode cL_law (pc + 7) = .ok (.iconst 0, 1))
    (kk : W p l e room_1 s m args below meth c H locs cells slots Q (F0 m (pc + 8) ls (.int (bz v) :: rest))) : W p l e room_1 s m args below meth c H locs cells slots Q (F0 m pc ls (.int v :: rest)) := by
  refine lv_if_eq (tgt := pc + 7) hx hb d0 (by omega) (fun c0 => ?_) (fun c0 => ?_)
  · refine lv_iconst (v := 0) hx hb d7 rfl ?_
    have e : bz v = 0 := if_pos c0
    rw [e] at kk
    exact kk
  · refine lv_iconst (v := 1) hx hb d3 rfl ?_
    refine lv_goto (tgt := pc + 8) hx hb d4 (by omega) ?_
    have e : bz v = 1 := if_neg c0
    rw [e] at kk
    exact kk
/-- a case's end: the model's answer, its thrown, the comparisons -/
theorem lwT {i : Nat} {b : Nat} {k2 b2 : Int32} {c0 s0 : Nat} (hL : LAp a bb o s.heap.size) (S9 : LS9 p m c s args) (hK : wK G s) (hn : nOk n) (hC : wC G a S H) (hM : wM G bb n M H) (hO : va_P G.1 vwCl (lO G o f) H) (hS : va_S (LF s.heap.size) s.heap H locs)
    (hl : lv_has ls 7 [(5, .int k2), (4, .int (nI i)), (0, .ref b), (1, .ref (a 0)), (2, .ref (bb 0)), (3, .ref o)]) (hth : M.1 0 = k2) (hans : k2 = 0 → f 0 = b2.toInt64) (hf : cells ≤ c0 ∧ slots ≤ s0) (hf2 : c0 ≤ room_1.cells ∧ s0 ≤ room_1.slots) {off : Int}
    (d0 : decode cL_law pc = .ok (.istore 6, 2)) (d2 : decode cL_law (pc + 2) = .ok (.aload_n 2, 1)) (d3 : decode cL_law (pc + 3) = .ok (.invokevirtual 92, 3)) (d6 : decode cL_law (pc + 6) = .ok (.iload 5, 2)) (d8 : decode cL_law (pc + 8) = .ok (.if_icmp .eq 5, 3)) (d13 : decode cL_law (pc + 13) = .ok (.iload 5, 2)) (d15 : decode cL_law (pc + 15) = .ok (.ifCond .ne 15, 3))
    (d18 : decode cL_law (pc + 18) = .ok (.aload_n 3, 1)) (d19 : decode cL_law (pc + 19) = .ok (.iconst 0, 1)) (d20 : decode cL_law (pc + 20) = .ok (.laload, 1)) (d21 : decode cL_law (pc + 21) = .ok (.iload 6, 2)) (d23 : decode cL_law (pc + 23) = .ok (.i2l, 1)) (d24 : decode cL_law (pc + 24) = .ok (.lcmp, 1)) (d25 : decode cL_law (pc + 25) = .ok (.ifCond .eq 5, 3)) (d30 : decode cL_law (pc + 30) = .ok (.goto off, 3)) (hoff : ((pc + 30 : Nat) : Int) + off = ((1653 : Nat) : Int))
    (KK : ∀ (H1 : Heap) (locs1 : List Loc) (ls1 : Array Slot), wC G a S H1 → wM G bb n M H1 → va_P G.1 vwCl (lO G o f) H1 → va_S (LF s.heap.size) s.heap H1 locs1 → lv_has ls1 7 [(4, .int (nI i)), (0, .ref b), (1, .ref (a 0)), (2, .ref (bb 0)), (3, .ref o)] → W p l e room_1 s m args below meth c H1 locs1 c0 s0 Q (F0 m 1653 ls1 [])) :
    W p l e room_1 s m args below meth c H locs cells slots Q (F0 m pc ls [.int b2]) := by
  have S9' := S9
  obtain ⟨hx, hb, hml, hown, hts⟩ := S9
  refine W.widen hf.1 hf.2 ?_
  refine lv_istore (lv' := [(6, .int b2), (5, .int k2), (4, .int (nI i)), (0, .ref b), (1, .ref (a 0)), (2, .ref (bb 0)), (3, .ref o)]) hx hb d0 hl (by decide) rfl (fun ls hl => ?_)
  refine lv_aload_n hx hb d2 rfl (lv_at hl 5 rfl) ?_
  refine lwM (wf := MW G.2 bb n) (u0 := M) (As := []) (rest := []) hL S9' hK hC hM hO hS (c_X4_thrown l G bb hL.2.1 n hn M H.size) (cwV 0 hts gL_law_X4_thrown rfl rfl rfl (by decide +kernel) ⟨Nat.le_of_ble_eq_true rfl, Nat.le_of_ble_eq_true rfl⟩) (mrO hK hM) rfl hl.1 rfl (Nat.le_of_ble_eq_true rfl) d3 hf2 (fun p1 H locs ep hC hM hO hS => ?_)
  subst ep
  refine lv_iload hx hb d6 (lv_at hl 1 rfl) ?_
  have fin : W p l e room_1 s m args below meth c H locs c0 s0 Q (F0 m (pc + 30) ls []) := lv_goto (tgt := 1653) hx hb d30 hoff (KK H locs ls hC hM hO hS (lv_sub hl [2, 3, 4, 5, 6] rfl))
  refine lv_icmp_eq (tgt := pc + 13) hx hb d8 (by omega) (fun _ => ?_) (fun z => absurd hth z)
  refine lv_iload hx hb d13 (lv_at hl 1 rfl) ?_
  refine lv_if_ne (tgt := pc + 30) hx hb d15 (by omega) (fun _ => fin) (fun z => ?_)
  refine lv_aload_n hx hb d18 rfl (lv_at hl 6 rfl) ?_
  refine lv_iconst (v := 0) hx hb d19 rfl ?_
  refine va_lald (D := G.1) (cA := G.2 5) (n := 1) (f := f) hx hb hK hO 0 5 rfl rfl (nI_ix (k := 0) (n := 1) (by decide) (by decide)) d20 ?_
  refine lv_iload hx hb d21 (lv_at hl 0 rfl) ?_
  refine lv_i2l hx hb d23 rfl ?_
  refine W.lcmp hx hb d24 ?_
  refine lv_if_eq (tgt := pc + 30) hx hb d25 (by omega) (fun _ => fin) (fun q => absurd ?_ q)
  have e0 : (0 : Int32).toNatClampNeg = 0 := by decide
  rw [e0, hans z]
  exact lg_same _
end LR
