set_option maxHeartbeats 4000000 in
set_option maxRecDepth 100000 in
theorem c_L_addLoad (l : Launch) (G : WG) (a : Nat → Nat) (ha : wInj 20 a) (o : Nat) (hao : ∀ k, k < 20 → o ≠ a k) (hst : l.stackTraces = false) (x1 : Int32) (x2 : Int32) (S : CS) (hc3 : ∃ N, N ≤ 10 ∧ S.1 3 = nI N) (f : Nat → Int64) (hcd : ∀ u S2, (f_X3_addLoad x1 x2 S) = Sum.inr (u, S2) → u = 0 ∨ u = 1) (sz : Nat) : hMi l yL_addLoad wsL_addLoad ({ frames := 7, cells := 1, slots := 6, locals := 112 }) 1 6 G a o [.ref (a 0), .int x1, .int x2, .ref o] S f sz (fun u => if u = 0 then 1 else if u = 1 then 2 else 0) (f_X3_addLoad x1 x2 S) := by
  unfold hMi
  refine va_MetW (cc := cL_addLoad) (maxL := 5) (ret := (some .int)) (hh := [(0, 10, 13, 13), (0, 10, 17, 15)]) (by decide) rfl ?_
  intro p e s m args below meth c s₁ B hml hv
  obtain ⟨rfl, rfl, ⟨hP, hPo⟩, hK, hexc, hn10, hn02⟩ := hv
  have hx := B.exec
  have hb := B.bytes
  have hr := B.returns
  have hts := atoms_spec (ws := wsL_addLoad) B.pre
  have hown : s.vm.findClass RL = some m.cls := findClass_of_methodNamed B.named
  have hlocks := B.notSynchronized
  have htab : c.exceptionTable.toList = tableOf [(0, 10, 13, 13), (0, 10, 17, 15)] := vx_table (x := yL_addLoad) B (hts _ List.mem_cons_self)
  have hl := lv_entry ([.ref (a 0), .int x1, .int x2, .ref o]) (n := 5) (Nat.le_of_ble_eq_true rfl)
  rw [lg_entry_eq]
  generalize (lg_sl ([.ref (a 0), .int x1, .int x2, .ref o] : List Value) ++ List.replicate (5 - (lg_sl ([.ref (a 0), .int x1, .int x2, .ref o] : List Value)).length) Slot.unset).toArray = ls at hl ⊢
  have hl : lv_has ls 5 [(0, .ref (a 0)), (1, .int x1), (2, .int x2), (3, .ref o)] := hl
  generalize hFe : (f_X3_addLoad x1 x2 S) = F at hcd ⊢
  show W p l e ({ frames := 7, cells := 1, slots := 6, locals := 112 } : Room) s m ([.ref (a 0), .int x1, .int x2, .ref o] : List Value).toArray below meth c s.heap [] 0 0 (hQ below 1 6 G a o f (fun u => if u = 0 then 1 else if u = 1 then 2 else 0) F ([.ref (a 0), .int x1, .int x2, .ref o] : List Value).toArray s) (F0 m 0 ls [])
  refine lv_aload_n hx hb dL_addLoad_0 rfl (lv_at hl 3 rfl) ?_
  refine lv_iconst (v := 0) hx hb dL_addLoad_1 (by decide) ?_
  refine lv_aload_n hx hb dL_addLoad_2 rfl (lv_at hl 0 rfl) ?_
  refine lv_iload_n hx hb dL_addLoad_3 rfl (lv_at hl 1 rfl) ?_
  refine lv_iload_n hx hb dL_addLoad_4 rfl (lv_at hl 2 rfl) ?_
  have hM := (c_X3_addLoad l G a ha hst x1 x2 S hc3 s.heap.size)
  rw [hFe] at hM
  refine gxcH (As := [.int x1, .int x2]) (rest := [.int 0, .ref o]) hao hexc ⟨hx, hb, hml, hown, hts⟩ hK hP hPo hM (cwV 2 hts gL_addLoad_X3_addLoad rfl rfl rfl (by decide +kernel) ⟨Nat.le_of_ble_eq_true rfl, Nat.le_of_ble_eq_true rfl⟩) rfl hl.1 rfl (Nat.le_of_ble_eq_true rfl) dL_addLoad_5 ⟨Nat.le_of_ble_eq_true rfl, Nat.le_of_ble_eq_true rfl⟩ (fun u ce q9 H locs eu hP hPo hS hce hcv hcl => ?_) (fun p1 H locs ep hP hPo hS => ?_)
  · obtain ⟨u, S2⟩ := u
    rcases hcd u S2 eu.symm with hu | hu
    · subst hu
      refine vx_catch (name := exN 0) (E := exN 0) hown [] _ _ (htab.trans rfl) (fun _ h9 => nomatch h9) rfl (by decide) (hts (.classLink RL 13 "java/lang/IllegalArgumentException") (by decide +kernel)) (xB_vm (Vm.Alike.refl s.vm) hexc.2.2.2 (.castable (exN 0) (exN 0)) (by decide +kernel)) hce hcv hcl ?_
      refine lv_astore (lv' := [(4, .ref q9), (0, .ref (a 0)), (1, .int x1), (2, .int x2), (3, .ref o)]) hx hb dL_addLoad_13 hl (by decide) rfl (fun ls hl => ?_)
      refine lv_iconst (v := 1) hx hb dL_addLoad_15 (by decide) ?_
      exact hRet (S := S2) hx hb hr hlocks hP hPo hS (by rw [← eu]; rfl) dL_addLoad_16
    · subst hu
      refine vx_catch (name := exN 1) (E := exN 1) hown [_] _ _ (htab.trans rfl) (fun w9 h9 => by rw [List.mem_singleton.mp h9]; exact Or.inr ⟨by decide, exN 0, hts (.classLink RL 13 "java/lang/IllegalArgumentException") (by decide +kernel), hn10⟩) rfl (by decide) (hts (.classLink RL 15 "java/lang/IllegalStateException") (by decide +kernel)) (xB_vm (Vm.Alike.refl s.vm) hexc.2.2.2 (.castable (exN 1) (exN 1)) (by decide +kernel)) hce hcv hcl ?_
      refine lv_astore (lv' := [(4, .ref q9), (0, .ref (a 0)), (1, .int x1), (2, .int x2), (3, .ref o)]) hx hb dL_addLoad_17 hl (by decide) rfl (fun ls hl => ?_)
      refine lv_iconst (v := 2) hx hb dL_addLoad_19 (by decide) ?_
      exact hRet (S := S2) hx hb hr hlocks hP hPo hS (by rw [← eu]; rfl) dL_addLoad_20
  · refine lv_i2l hx hb dL_addLoad_8 rfl ?_
    refine hst0 hao hx hb hK ha hP hPo hS dL_addLoad_9 (fun H locs hP hPo hS => ?_)
    refine lv_goto (tgt := 21) hx hb dL_addLoad_10 (by decide) ?_
    refine lv_iconst (v := 0) hx hb dL_addLoad_21 (by decide) ?_
    exact hRet (S := p1.2) hx hb hr hlocks hP hPo hS (by rw [← ep]; rfl) dL_addLoad_22
set_option maxHeartbeats 4000000 in
set_option maxRecDepth 100000 in
theorem c_L_addBattery (l : Launch) (G : WG) (a : Nat → Nat) (ha : wInj 20 a) (o : Nat) (hao : ∀ k, k < 20 → o ≠ a k) (hst : l.stackTraces = false) (x1 : Int32) (x2 : Int32) (x3 : Int32) (S : CS) (hc3 : ∃ N, N ≤ 3 ∧ S.1 4 = nI N) (f : Nat → Int64) (hcd : ∀ u S2, (f_X3_addBattery x1 x2 x3 S) = Sum.inr (u, S2) → u = 0 ∨ u = 1) (sz : Nat) : hMi l yL_addBattery wsL_addBattery ({ frames := 7, cells := 1, slots := 6, locals := 113 }) 1 6 G a o [.ref (a 0), .int x1, .int x2, .int x3, .ref o] S f sz (fun u => if u = 0 then 1 else if u = 1 then 2 else 0) (f_X3_addBattery x1 x2 x3 S) := by
  unfold hMi
  refine va_MetW (cc := cL_addBattery) (maxL := 6) (ret := (some .int)) (hh := [(0, 12, 15, 13), (0, 12, 19, 15)]) (by decide) rfl ?_
  intro p e s m args below meth c s₁ B hml hv
  obtain ⟨rfl, rfl, ⟨hP, hPo⟩, hK, hexc, hn10, hn02⟩ := hv
  have hx := B.exec
  have hb := B.bytes
  have hr := B.returns
  have hts := atoms_spec (ws := wsL_addBattery) B.pre
  have hown : s.vm.findClass RL = some m.cls := findClass_of_methodNamed B.named
  have hlocks := B.notSynchronized
  have htab : c.exceptionTable.toList = tableOf [(0, 12, 15, 13), (0, 12, 19, 15)] := vx_table (x := yL_addBattery) B (hts _ List.mem_cons_self)
  have hl := lv_entry ([.ref (a 0), .int x1, .int x2, .int x3, .ref o]) (n := 6) (Nat.le_of_ble_eq_true rfl)
  rw [lg_entry_eq]
  generalize (lg_sl ([.ref (a 0), .int x1, .int x2, .int x3, .ref o] : List Value) ++ List.replicate (6 - (lg_sl ([.ref (a 0), .int x1, .int x2, .int x3, .ref o] : List Value)).length) Slot.unset).toArray = ls at hl ⊢
  have hl : lv_has ls 6 [(0, .ref (a 0)), (1, .int x1), (2, .int x2), (3, .int x3), (4, .ref o)] := hl
  generalize hFe : (f_X3_addBattery x1 x2 x3 S) = F at hcd ⊢
  show W p l e ({ frames := 7, cells := 1, slots := 6, locals := 113 } : Room) s m ([.ref (a 0), .int x1, .int x2, .int x3, .ref o] : List Value).toArray below meth c s.heap [] 0 0 (hQ below 1 6 G a o f (fun u => if u = 0 then 1 else if u = 1 then 2 else 0) F ([.ref (a 0), .int x1, .int x2, .int x3, .ref o] : List Value).toArray s) (F0 m 0 ls [])
  refine lv_aload hx hb dL_addBattery_0 (lv_at hl 4 rfl) ?_
  refine lv_iconst (v := 0) hx hb dL_addBattery_2 (by decide) ?_
  refine lv_aload_n hx hb dL_addBattery_3 rfl (lv_at hl 0 rfl) ?_
  refine lv_iload_n hx hb dL_addBattery_4 rfl (lv_at hl 1 rfl) ?_
  refine lv_iload_n hx hb dL_addBattery_5 rfl (lv_at hl 2 rfl) ?_
  refine lv_iload_n hx hb dL_addBattery_6 rfl (lv_at hl 3 rfl) ?_
  have hM := (c_X3_addBattery l G a ha hst x1 x2 x3 S hc3 s.heap.size)
  rw [hFe] at hM
  refine gxcH (As := [.int x1, .int x2, .int x3]) (rest := [.int 0, .ref o]) hao hexc ⟨hx, hb, hml, hown, hts⟩ hK hP hPo hM (cwV 3 hts gL_addBattery_X3_addBattery rfl rfl rfl (by decide +kernel) ⟨Nat.le_of_ble_eq_true rfl, Nat.le_of_ble_eq_true rfl⟩) rfl hl.1 rfl (Nat.le_of_ble_eq_true rfl) dL_addBattery_7 ⟨Nat.le_of_ble_eq_true rfl, Nat.le_of_ble_eq_true rfl⟩ (fun u ce q9 H locs eu hP hPo hS hce hcv hcl => ?_) (fun p1 H locs ep hP hPo hS => ?_)
  · obtain ⟨u, S2⟩ := u
    rcases hcd u S2 eu.symm with hu | hu
    · subst hu
      refine vx_catch (name := exN 0) (E := exN 0) hown [] _ _ (htab.trans rfl) (fun _ h9 => nomatch h9) rfl (by decide) (hts (.classLink RL 13 "java/lang/IllegalArgumentException") (by decide +kernel)) (xB_vm (Vm.Alike.refl s.vm) hexc.2.2.2 (.castable (exN 0) (exN 0)) (by decide +kernel)) hce hcv hcl ?_
      refine lv_astore (lv' := [(5, .ref q9), (0, .ref (a 0)), (1, .int x1), (2, .int x2), (3, .int x3), (4, .ref o)]) hx hb dL_addBattery_15 hl (by decide) rfl (fun ls hl => ?_)
      refine lv_iconst (v := 1) hx hb dL_addBattery_17 (by decide) ?_
      exact hRet (S := S2) hx hb hr hlocks hP hPo hS (by rw [← eu]; rfl) dL_addBattery_18
    · subst hu
      refine vx_catch (name := exN 1) (E := exN 1) hown [_] _ _ (htab.trans rfl) (fun w9 h9 => by rw [List.mem_singleton.mp h9]; exact Or.inr ⟨by decide, exN 0, hts (.classLink RL 13 "java/lang/IllegalArgumentException") (by decide +kernel), hn10⟩) rfl (by decide) (hts (.classLink RL 15 "java/lang/IllegalStateException") (by decide +kernel)) (xB_vm (Vm.Alike.refl s.vm) hexc.2.2.2 (.castable (exN 1) (exN 1)) (by decide +kernel)) hce hcv hcl ?_
      refine lv_astore (lv' := [(5, .ref q9), (0, .ref (a 0)), (1, .int x1), (2, .int x2), (3, .int x3), (4, .ref o)]) hx hb dL_addBattery_19 hl (by decide) rfl (fun ls hl => ?_)
      refine lv_iconst (v := 2) hx hb dL_addBattery_21 (by decide) ?_
      exact hRet (S := S2) hx hb hr hlocks hP hPo hS (by rw [← eu]; rfl) dL_addBattery_22
  · refine lv_i2l hx hb dL_addBattery_10 rfl ?_
    refine hst0 hao hx hb hK ha hP hPo hS dL_addBattery_11 (fun H locs hP hPo hS => ?_)
    refine lv_goto (tgt := 23) hx hb dL_addBattery_12 (by decide) ?_
    refine lv_iconst (v := 0) hx hb dL_addBattery_23 (by decide) ?_
    exact hRet (S := p1.2) hx hb hr hlocks hP hPo hS (by rw [← ep]; rfl) dL_addBattery_24
set_option maxHeartbeats 4000000 in
set_option maxRecDepth 100000 in
theorem c_L_addGenerator (l : Launch) (G : WG) (a : Nat → Nat) (ha : wInj 20 a) (o : Nat) (hao : ∀ k, k < 20 → o ≠ a k) (hst : l.stackTraces = false) (x1 : Int32) (x2 : Int32) (x3 : Int32) (S : CS) (hc3 : ∃ N, N ≤ 3 ∧ S.1 5 = nI N) (f : Nat → Int64) (hcd : ∀ u S2, (f_X3_addGenerator x1 x2 x3 S) = Sum.inr (u, S2) → u = 0 ∨ u = 1) (sz : Nat) : hMi l yL_addGenerator wsL_addGenerator ({ frames := 7, cells := 1, slots := 6, locals := 113 }) 1 6 G a o [.ref (a 0), .int x1, .int x2, .int x3, .ref o] S f sz (fun u => if u = 0 then 1 else if u = 1 then 2 else 0) (f_X3_addGenerator x1 x2 x3 S) := by
  unfold hMi
  refine va_MetW (cc := cL_addGenerator) (maxL := 6) (ret := (some .int)) (hh := [(0, 12, 15, 13), (0, 12, 19, 15)]) (by decide) rfl ?_
  intro p e s m args below meth c s₁ B hml hv
  obtain ⟨rfl, rfl, ⟨hP, hPo⟩, hK, hexc, hn10, hn02⟩ := hv
  have hx := B.exec
  have hb := B.bytes
  have hr := B.returns
  have hts := atoms_spec (ws := wsL_addGenerator) B.pre
  have hown : s.vm.findClass RL = some m.cls := findClass_of_methodNamed B.named
  have hlocks := B.notSynchronized
  have htab : c.exceptionTable.toList = tableOf [(0, 12, 15, 13), (0, 12, 19, 15)] := vx_table (x := yL_addGenerator) B (hts _ List.mem_cons_self)
  have hl := lv_entry ([.ref (a 0), .int x1, .int x2, .int x3, .ref o]) (n := 6) (Nat.le_of_ble_eq_true rfl)
  rw [lg_entry_eq]
  generalize (lg_sl ([.ref (a 0), .int x1, .int x2, .int x3, .ref o] : List Value) ++ List.replicate (6 - (lg_sl ([.ref (a 0), .int x1, .int x2, .int x3, .ref o] : List Value)).length) Slot.unset).toArray = ls at hl ⊢
  have hl : lv_has ls 6 [(0, .ref (a 0)), (1, .int x1), (2, .int x2), (3, .int x3), (4, .ref o)] := hl
  generalize hFe : (f_X3_addGenerator x1 x2 x3 S) = F at hcd ⊢
  show W p l e ({ frames := 7, cells := 1, slots := 6, locals := 113 } : Room) s m ([.ref (a 0), .int x1, .int x2, .int x3, .ref o] : List Value).toArray below meth c s.heap [] 0 0 (hQ below 1 6 G a o f (fun u => if u = 0 then 1 else if u = 1 then 2 else 0) F ([.ref (a 0), .int x1, .int x2, .int x3, .ref o] : List Value).toArray s) (F0 m 0 ls [])
  refine lv_aload hx hb dL_addGenerator_0 (lv_at hl 4 rfl) ?_
  refine lv_iconst (v := 0) hx hb dL_addGenerator_2 (by decide) ?_
  refine lv_aload_n hx hb dL_addGenerator_3 rfl (lv_at hl 0 rfl) ?_
  refine lv_iload_n hx hb dL_addGenerator_4 rfl (lv_at hl 1 rfl) ?_
  refine lv_iload_n hx hb dL_addGenerator_5 rfl (lv_at hl 2 rfl) ?_
  refine lv_iload_n hx hb dL_addGenerator_6 rfl (lv_at hl 3 rfl) ?_
  have hM := (c_X3_addGenerator l G a ha hst x1 x2 x3 S hc3 s.heap.size)
  rw [hFe] at hM
  refine gxcH (As := [.int x1, .int x2, .int x3]) (rest := [.int 0, .ref o]) hao hexc ⟨hx, hb, hml, hown, hts⟩ hK hP hPo hM (cwV 3 hts gL_addGenerator_X3_addGenerator rfl rfl rfl (by decide +kernel) ⟨Nat.le_of_ble_eq_true rfl, Nat.le_of_ble_eq_true rfl⟩) rfl hl.1 rfl (Nat.le_of_ble_eq_true rfl) dL_addGenerator_7 ⟨Nat.le_of_ble_eq_true rfl, Nat.le_of_ble_eq_true rfl⟩ (fun u ce q9 H locs eu hP hPo hS hce hcv hcl => ?_) (fun p1 H locs ep hP hPo hS => ?_)
  · obtain ⟨u, S2⟩ := u
    rcases hcd u S2 eu.symm with hu | hu
    · subst hu
      refine vx_catch (name := exN 0) (E := exN 0) hown [] _ _ (htab.trans rfl) (fun _ h9 => nomatch h9) rfl (by decide) (hts (.classLink RL 13 "java/lang/IllegalArgumentException") (by decide +kernel)) (xB_vm (Vm.Alike.refl s.vm) hexc.2.2.2 (.castable (exN 0) (exN 0)) (by decide +kernel)) hce hcv hcl ?_
      refine lv_astore (lv' := [(5, .ref q9), (0, .ref (a 0)), (1, .int x1), (2, .int x2), (3, .int x3), (4, .ref o)]) hx hb dL_addGenerator_15 hl (by decide) rfl (fun ls hl => ?_)
      refine lv_iconst (v := 1) hx hb dL_addGenerator_17 (by decide) ?_
      exact hRet (S := S2) hx hb hr hlocks hP hPo hS (by rw [← eu]; rfl) dL_addGenerator_18
    · subst hu
      refine vx_catch (name := exN 1) (E := exN 1) hown [_] _ _ (htab.trans rfl) (fun w9 h9 => by rw [List.mem_singleton.mp h9]; exact Or.inr ⟨by decide, exN 0, hts (.classLink RL 13 "java/lang/IllegalArgumentException") (by decide +kernel), hn10⟩) rfl (by decide) (hts (.classLink RL 15 "java/lang/IllegalStateException") (by decide +kernel)) (xB_vm (Vm.Alike.refl s.vm) hexc.2.2.2 (.castable (exN 1) (exN 1)) (by decide +kernel)) hce hcv hcl ?_
      refine lv_astore (lv' := [(5, .ref q9), (0, .ref (a 0)), (1, .int x1), (2, .int x2), (3, .int x3), (4, .ref o)]) hx hb dL_addGenerator_19 hl (by decide) rfl (fun ls hl => ?_)
      refine lv_iconst (v := 2) hx hb dL_addGenerator_21 (by decide) ?_
      exact hRet (S := S2) hx hb hr hlocks hP hPo hS (by rw [← eu]; rfl) dL_addGenerator_22
  · refine lv_i2l hx hb dL_addGenerator_10 rfl ?_
    refine hst0 hao hx hb hK ha hP hPo hS dL_addGenerator_11 (fun H locs hP hPo hS => ?_)
    refine lv_goto (tgt := 23) hx hb dL_addGenerator_12 (by decide) ?_
    refine lv_iconst (v := 0) hx hb dL_addGenerator_23 (by decide) ?_
    exact hRet (S := p1.2) hx hb hr hlocks hP hPo hS (by rw [← ep]; rfl) dL_addGenerator_24
set_option maxHeartbeats 4000000 in
set_option maxRecDepth 100000 in
theorem c_L_switchLoad (l : Launch) (G : WG) (a : Nat → Nat) (ha : wInj 20 a) (o : Nat) (hao : ∀ k, k < 20 → o ≠ a k) (hst : l.stackTraces = false) (x1 : Int32) (x2 : Int32) (S : CS) (hc3 : ∃ N, N ≤ 10 ∧ S.1 3 = nI N) (f : Nat → Int64) (hcd : ∀ u S2, (f_X3_switchLoad x1 x2 S) = Sum.inr (u, S2) → u = 2) (sz : Nat) : hMi l yL_switchLoad wsL_switchLoad ({ frames := 8, cells := 1, slots := 6, locals := 134 }) 1 6 G a o [.ref (a 0), .int x1, .int x2, .ref o] S f sz (fun u => if u = 2 then 1 else 0) (f_X3_switchLoad x1 x2 S) := by
  unfold hMi
  refine va_MetW (cc := cL_switchLoad) (maxL := 5) (ret := (some .int)) (hh := [(0, 10, 13, 28)]) (by decide) rfl ?_
  intro p e s m args below meth c s₁ B hml hv
  obtain ⟨rfl, rfl, ⟨hP, hPo⟩, hK, hexc, hn10, hn02⟩ := hv
  have hx := B.exec
  have hb := B.bytes
  have hr := B.returns
  have hts := atoms_spec (ws := wsL_switchLoad) B.pre
  have hown : s.vm.findClass RL = some m.cls := findClass_of_methodNamed B.named
  have hlocks := B.notSynchronized
  have htab : c.exceptionTable.toList = tableOf [(0, 10, 13, 28)] := vx_table (x := yL_switchLoad) B (hts _ List.mem_cons_self)
  have hl := lv_entry ([.ref (a 0), .int x1, .int x2, .ref o]) (n := 5) (Nat.le_of_ble_eq_true rfl)
  rw [lg_entry_eq]
  generalize (lg_sl ([.ref (a 0), .int x1, .int x2, .ref o] : List Value) ++ List.replicate (5 - (lg_sl ([.ref (a 0), .int x1, .int x2, .ref o] : List Value)).length) Slot.unset).toArray = ls at hl ⊢
  have hl : lv_has ls 5 [(0, .ref (a 0)), (1, .int x1), (2, .int x2), (3, .ref o)] := hl
  generalize hFe : (f_X3_switchLoad x1 x2 S) = F at hcd ⊢
  show W p l e ({ frames := 8, cells := 1, slots := 6, locals := 134 } : Room) s m ([.ref (a 0), .int x1, .int x2, .ref o] : List Value).toArray below meth c s.heap [] 0 0 (hQ below 1 6 G a o f (fun u => if u = 2 then 1 else 0) F ([.ref (a 0), .int x1, .int x2, .ref o] : List Value).toArray s) (F0 m 0 ls [])
  refine lv_aload_n hx hb dL_switchLoad_0 rfl (lv_at hl 3 rfl) ?_
  refine lv_iconst (v := 0) hx hb dL_switchLoad_1 (by decide) ?_
  refine lv_aload_n hx hb dL_switchLoad_2 rfl (lv_at hl 0 rfl) ?_
  refine lv_iload_n hx hb dL_switchLoad_3 rfl (lv_at hl 1 rfl) ?_
  refine lv_iload_n hx hb dL_switchLoad_4 rfl (lv_at hl 2 rfl) ?_
  have hM := (c_X3_switchLoad l G a ha hst x1 x2 S hc3 s.heap.size)
  rw [hFe] at hM
  refine gxcH (As := [.int x1, .int x2]) (rest := [.int 0, .ref o]) hao hexc ⟨hx, hb, hml, hown, hts⟩ hK hP hPo hM (cwV 2 hts gL_switchLoad_X3_switchLoad rfl rfl rfl (by decide +kernel) ⟨Nat.le_of_ble_eq_true rfl, Nat.le_of_ble_eq_true rfl⟩) rfl hl.1 rfl (Nat.le_of_ble_eq_true rfl) dL_switchLoad_5 ⟨Nat.le_of_ble_eq_true rfl, Nat.le_of_ble_eq_true rfl⟩ (fun u ce q9 H locs eu hP hPo hS hce hcv hcl => ?_) (fun p1 H locs ep hP hPo hS => ?_)
  · obtain ⟨u, S2⟩ := u
    have hu : u = 2 := hcd u S2 eu.symm
    subst hu
    refine vx_catch (name := exN 2) (E := exN 2) hown [] _ _ (htab.trans rfl) (fun _ h9 => nomatch h9) rfl (by decide) (hts (.classLink RL 28 "java/lang/IndexOutOfBoundsException") (by decide +kernel)) (xB_vm (Vm.Alike.refl s.vm) hexc.2.2.2 (.castable (exN 2) (exN 2)) (by decide +kernel)) hce hcv hcl ?_
    refine lv_astore (lv' := [(4, .ref q9), (0, .ref (a 0)), (1, .int x1), (2, .int x2), (3, .ref o)]) hx hb dL_switchLoad_13 hl (by decide) rfl (fun ls hl => ?_)
    refine lv_iconst (v := 1) hx hb dL_switchLoad_15 (by decide) ?_
    exact hRet (S := S2) hx hb hr hlocks hP hPo hS (by rw [← eu]; rfl) dL_switchLoad_16
  · refine lv_i2l hx hb dL_switchLoad_8 rfl ?_
    refine hst0 hao hx hb hK ha hP hPo hS dL_switchLoad_9 (fun H locs hP hPo hS => ?_)
    refine lv_goto (tgt := 17) hx hb dL_switchLoad_10 (by decide) ?_
    refine lv_iconst (v := 0) hx hb dL_switchLoad_17 (by decide) ?_
    exact hRet (S := p1.2) hx hb hr hlocks hP hPo hS (by rw [← ep]; rfl) dL_switchLoad_18
set_option maxHeartbeats 4000000 in
set_option maxRecDepth 100000 in
theorem c_L_setPower (l : Launch) (G : WG) (a : Nat → Nat) (ha : wInj 20 a) (o : Nat) (hao : ∀ k, k < 20 → o ≠ a k) (hst : l.stackTraces = false) (x1 : Int32) (x2 : Int32) (S : CS) (hc3 : ∃ N, N ≤ 10 ∧ S.1 3 = nI N) (f : Nat → Int64) (hcd : ∀ u S2, (f_X3_setPower x1 x2 S) = Sum.inr (u, S2) → u = 2 ∨ u = 0) (sz : Nat) : hMi l yL_setPower wsL_setPower ({ frames := 8, cells := 2, slots := 12, locals := 135 }) 2 12 G a o [.ref (a 0), .int x1, .int x2, .ref o] S f sz (fun u => if u = 2 then 1 else if u = 0 then 2 else 0) (f_X3_setPower x1 x2 S) := by
  unfold hMi
  refine va_MetW (cc := cL_setPower) (maxL := 5) (ret := (some .int)) (hh := [(0, 10, 13, 28), (0, 10, 17, 13)]) (by decide) rfl ?_
  intro p e s m args below meth c s₁ B hml hv
  obtain ⟨rfl, rfl, ⟨hP, hPo⟩, hK, hexc, hn10, hn02⟩ := hv
  have hx := B.exec
  have hb := B.bytes
  have hr := B.returns
  have hts := atoms_spec (ws := wsL_setPower) B.pre
  have hown : s.vm.findClass RL = some m.cls := findClass_of_methodNamed B.named
  have hlocks := B.notSynchronized
  have htab : c.exceptionTable.toList = tableOf [(0, 10, 13, 28), (0, 10, 17, 13)] := vx_table (x := yL_setPower) B (hts _ List.mem_cons_self)
  have hl := lv_entry ([.ref (a 0), .int x1, .int x2, .ref o]) (n := 5) (Nat.le_of_ble_eq_true rfl)
  rw [lg_entry_eq]
  generalize (lg_sl ([.ref (a 0), .int x1, .int x2, .ref o] : List Value) ++ List.replicate (5 - (lg_sl ([.ref (a 0), .int x1, .int x2, .ref o] : List Value)).length) Slot.unset).toArray = ls at hl ⊢
  have hl : lv_has ls 5 [(0, .ref (a 0)), (1, .int x1), (2, .int x2), (3, .ref o)] := hl
  generalize hFe : (f_X3_setPower x1 x2 S) = F at hcd ⊢
  show W p l e ({ frames := 8, cells := 2, slots := 12, locals := 135 } : Room) s m ([.ref (a 0), .int x1, .int x2, .ref o] : List Value).toArray below meth c s.heap [] 0 0 (hQ below 2 12 G a o f (fun u => if u = 2 then 1 else if u = 0 then 2 else 0) F ([.ref (a 0), .int x1, .int x2, .ref o] : List Value).toArray s) (F0 m 0 ls [])
  refine lv_aload_n hx hb dL_setPower_0 rfl (lv_at hl 3 rfl) ?_
  refine lv_iconst (v := 0) hx hb dL_setPower_1 (by decide) ?_
  refine lv_aload_n hx hb dL_setPower_2 rfl (lv_at hl 0 rfl) ?_
  refine lv_iload_n hx hb dL_setPower_3 rfl (lv_at hl 1 rfl) ?_
  refine lv_iload_n hx hb dL_setPower_4 rfl (lv_at hl 2 rfl) ?_
  have hM := (c_X3_setPower l G a ha hst x1 x2 S hc3 s.heap.size)
  rw [hFe] at hM
  refine gxcH (As := [.int x1, .int x2]) (rest := [.int 0, .ref o]) hao hexc ⟨hx, hb, hml, hown, hts⟩ hK hP hPo hM (cwV 2 hts gL_setPower_X3_setPower rfl rfl rfl (by decide +kernel) ⟨Nat.le_of_ble_eq_true rfl, Nat.le_of_ble_eq_true rfl⟩) rfl hl.1 rfl (Nat.le_of_ble_eq_true rfl) dL_setPower_5 ⟨Nat.le_of_ble_eq_true rfl, Nat.le_of_ble_eq_true rfl⟩ (fun u ce q9 H locs eu hP hPo hS hce hcv hcl => ?_) (fun p1 H locs ep hP hPo hS => ?_)
  · obtain ⟨u, S2⟩ := u
    rcases hcd u S2 eu.symm with hu | hu
    · subst hu
      refine vx_catch (name := exN 2) (E := exN 2) hown [] _ _ (htab.trans rfl) (fun _ h9 => nomatch h9) rfl (by decide) (hts (.classLink RL 28 "java/lang/IndexOutOfBoundsException") (by decide +kernel)) (xB_vm (Vm.Alike.refl s.vm) hexc.2.2.2 (.castable (exN 2) (exN 2)) (by decide +kernel)) hce hcv hcl ?_
      refine lv_astore (lv' := [(4, .ref q9), (0, .ref (a 0)), (1, .int x1), (2, .int x2), (3, .ref o)]) hx hb dL_setPower_13 hl (by decide) rfl (fun ls hl => ?_)
      refine lv_iconst (v := 1) hx hb dL_setPower_15 (by decide) ?_
      exact hRet (S := S2) hx hb hr hlocks hP hPo hS (by rw [← eu]; rfl) dL_setPower_16
    · subst hu
      refine vx_catch (name := exN 0) (E := exN 0) hown [_] _ _ (htab.trans rfl) (fun w9 h9 => by rw [List.mem_singleton.mp h9]; exact Or.inr ⟨by decide, exN 2, hts (.classLink RL 28 "java/lang/IndexOutOfBoundsException") (by decide +kernel), hn02⟩) rfl (by decide) (hts (.classLink RL 13 "java/lang/IllegalArgumentException") (by decide +kernel)) (xB_vm (Vm.Alike.refl s.vm) hexc.2.2.2 (.castable (exN 0) (exN 0)) (by decide +kernel)) hce hcv hcl ?_
      refine lv_astore (lv' := [(4, .ref q9), (0, .ref (a 0)), (1, .int x1), (2, .int x2), (3, .ref o)]) hx hb dL_setPower_17 hl (by decide) rfl (fun ls hl => ?_)
      refine lv_iconst (v := 2) hx hb dL_setPower_19 (by decide) ?_
      exact hRet (S := S2) hx hb hr hlocks hP hPo hS (by rw [← eu]; rfl) dL_setPower_20
  · refine lv_i2l hx hb dL_setPower_8 rfl ?_
    refine hst0 hao hx hb hK ha hP hPo hS dL_setPower_9 (fun H locs hP hPo hS => ?_)
    refine lv_goto (tgt := 21) hx hb dL_setPower_10 (by decide) ?_
    refine lv_iconst (v := 0) hx hb dL_setPower_21 (by decide) ?_
    exact hRet (S := p1.2) hx hb hr hlocks hP hPo hS (by rw [← ep]; rfl) dL_setPower_22
set_option maxHeartbeats 4000000 in
set_option maxRecDepth 100000 in
theorem c_L_refuel (l : Launch) (G : WG) (a : Nat → Nat) (ha : wInj 20 a) (o : Nat) (hao : ∀ k, k < 20 → o ≠ a k) (hst : l.stackTraces = false) (x1 : Int32) (x2 : Int32) (S : CS) (hc3 : ∃ N, N ≤ 3 ∧ S.1 5 = nI N) (f : Nat → Int64) (hcd : ∀ u S2, (f_X3_refuel x1 x2 S) = Sum.inr (u, S2) → u = 2 ∨ u = 0) (sz : Nat) : hMi l yL_refuel wsL_refuel ({ frames := 8, cells := 2, slots := 12, locals := 135 }) 2 12 G a o [.ref (a 0), .int x1, .int x2, .ref o] S f sz (fun u => if u = 2 then 1 else if u = 0 then 2 else 0) (f_X3_refuel x1 x2 S) := by
  unfold hMi
  refine va_MetW (cc := cL_refuel) (maxL := 5) (ret := (some .int)) (hh := [(0, 10, 13, 28), (0, 10, 17, 13)]) (by decide) rfl ?_
  intro p e s m args below meth c s₁ B hml hv
  obtain ⟨rfl, rfl, ⟨hP, hPo⟩, hK, hexc, hn10, hn02⟩ := hv
  have hx := B.exec
  have hb := B.bytes
  have hr := B.returns
  have hts := atoms_spec (ws := wsL_refuel) B.pre
  have hown : s.vm.findClass RL = some m.cls := findClass_of_methodNamed B.named
  have hlocks := B.notSynchronized
  have htab : c.exceptionTable.toList = tableOf [(0, 10, 13, 28), (0, 10, 17, 13)] := vx_table (x := yL_refuel) B (hts _ List.mem_cons_self)
  have hl := lv_entry ([.ref (a 0), .int x1, .int x2, .ref o]) (n := 5) (Nat.le_of_ble_eq_true rfl)
  rw [lg_entry_eq]
  generalize (lg_sl ([.ref (a 0), .int x1, .int x2, .ref o] : List Value) ++ List.replicate (5 - (lg_sl ([.ref (a 0), .int x1, .int x2, .ref o] : List Value)).length) Slot.unset).toArray = ls at hl ⊢
  have hl : lv_has ls 5 [(0, .ref (a 0)), (1, .int x1), (2, .int x2), (3, .ref o)] := hl
  generalize hFe : (f_X3_refuel x1 x2 S) = F at hcd ⊢
  show W p l e ({ frames := 8, cells := 2, slots := 12, locals := 135 } : Room) s m ([.ref (a 0), .int x1, .int x2, .ref o] : List Value).toArray below meth c s.heap [] 0 0 (hQ below 2 12 G a o f (fun u => if u = 2 then 1 else if u = 0 then 2 else 0) F ([.ref (a 0), .int x1, .int x2, .ref o] : List Value).toArray s) (F0 m 0 ls [])
  refine lv_aload_n hx hb dL_refuel_0 rfl (lv_at hl 3 rfl) ?_
  refine lv_iconst (v := 0) hx hb dL_refuel_1 (by decide) ?_
  refine lv_aload_n hx hb dL_refuel_2 rfl (lv_at hl 0 rfl) ?_
  refine lv_iload_n hx hb dL_refuel_3 rfl (lv_at hl 1 rfl) ?_
  refine lv_iload_n hx hb dL_refuel_4 rfl (lv_at hl 2 rfl) ?_
  have hM := (c_X3_refuel l G a ha hst x1 x2 S hc3 s.heap.size)
  rw [hFe] at hM
  refine gxcH (As := [.int x1, .int x2]) (rest := [.int 0, .ref o]) hao hexc ⟨hx, hb, hml, hown, hts⟩ hK hP hPo hM (cwV 2 hts gL_refuel_X3_refuel rfl rfl rfl (by decide +kernel) ⟨Nat.le_of_ble_eq_true rfl, Nat.le_of_ble_eq_true rfl⟩) rfl hl.1 rfl (Nat.le_of_ble_eq_true rfl) dL_refuel_5 ⟨Nat.le_of_ble_eq_true rfl, Nat.le_of_ble_eq_true rfl⟩ (fun u ce q9 H locs eu hP hPo hS hce hcv hcl => ?_) (fun p1 H locs ep hP hPo hS => ?_)
  · obtain ⟨u, S2⟩ := u
    rcases hcd u S2 eu.symm with hu | hu
    · subst hu
      refine vx_catch (name := exN 2) (E := exN 2) hown [] _ _ (htab.trans rfl) (fun _ h9 => nomatch h9) rfl (by decide) (hts (.classLink RL 28 "java/lang/IndexOutOfBoundsException") (by decide +kernel)) (xB_vm (Vm.Alike.refl s.vm) hexc.2.2.2 (.castable (exN 2) (exN 2)) (by decide +kernel)) hce hcv hcl ?_
      refine lv_astore (lv' := [(4, .ref q9), (0, .ref (a 0)), (1, .int x1), (2, .int x2), (3, .ref o)]) hx hb dL_refuel_13 hl (by decide) rfl (fun ls hl => ?_)
      refine lv_iconst (v := 1) hx hb dL_refuel_15 (by decide) ?_
      exact hRet (S := S2) hx hb hr hlocks hP hPo hS (by rw [← eu]; rfl) dL_refuel_16
    · subst hu
      refine vx_catch (name := exN 0) (E := exN 0) hown [_] _ _ (htab.trans rfl) (fun w9 h9 => by rw [List.mem_singleton.mp h9]; exact Or.inr ⟨by decide, exN 2, hts (.classLink RL 28 "java/lang/IndexOutOfBoundsException") (by decide +kernel), hn02⟩) rfl (by decide) (hts (.classLink RL 13 "java/lang/IllegalArgumentException") (by decide +kernel)) (xB_vm (Vm.Alike.refl s.vm) hexc.2.2.2 (.castable (exN 0) (exN 0)) (by decide +kernel)) hce hcv hcl ?_
      refine lv_astore (lv' := [(4, .ref q9), (0, .ref (a 0)), (1, .int x1), (2, .int x2), (3, .ref o)]) hx hb dL_refuel_17 hl (by decide) rfl (fun ls hl => ?_)
      refine lv_iconst (v := 2) hx hb dL_refuel_19 (by decide) ?_
      exact hRet (S := S2) hx hb hr hlocks hP hPo hS (by rw [← eu]; rfl) dL_refuel_20
  · refine lv_i2l hx hb dL_refuel_8 rfl ?_
    refine hst0 hao hx hb hK ha hP hPo hS dL_refuel_9 (fun H locs hP hPo hS => ?_)
    refine lv_goto (tgt := 21) hx hb dL_refuel_10 (by decide) ?_
    refine lv_iconst (v := 0) hx hb dL_refuel_21 (by decide) ?_
    exact hRet (S := p1.2) hx hb hr hlocks hP hPo hS (by rw [← ep]; rfl) dL_refuel_22
set_option maxHeartbeats 4000000 in
set_option maxRecDepth 100000 in
theorem c_L_setFailures (l : Launch) (G : WG) (a : Nat → Nat) (ha : wInj 20 a) (o : Nat) (hao : ∀ k, k < 20 → o ≠ a k) (hst : l.stackTraces = false) (x1 : Int32) (x2 : Int32) (S : CS) (hc3 : ∃ N, N ≤ 3 ∧ S.1 5 = nI N) (f : Nat → Int64) (hcd : ∀ u S2, (f_X3_setFailures x1 x2 S) = Sum.inr (u, S2) → u = 2 ∨ u = 0) (sz : Nat) : hMi l yL_setFailures wsL_setFailures ({ frames := 8, cells := 2, slots := 12, locals := 135 }) 2 12 G a o [.ref (a 0), .int x1, .int x2, .ref o] S f sz (fun u => if u = 2 then 1 else if u = 0 then 2 else 0) (f_X3_setFailures x1 x2 S) := by
  unfold hMi
  refine va_MetW (cc := cL_setFailures) (maxL := 5) (ret := (some .int)) (hh := [(0, 10, 13, 28), (0, 10, 17, 13)]) (by decide) rfl ?_
  intro p e s m args below meth c s₁ B hml hv
  obtain ⟨rfl, rfl, ⟨hP, hPo⟩, hK, hexc, hn10, hn02⟩ := hv
  have hx := B.exec
  have hb := B.bytes
  have hr := B.returns
  have hts := atoms_spec (ws := wsL_setFailures) B.pre
  have hown : s.vm.findClass RL = some m.cls := findClass_of_methodNamed B.named
  have hlocks := B.notSynchronized
  have htab : c.exceptionTable.toList = tableOf [(0, 10, 13, 28), (0, 10, 17, 13)] := vx_table (x := yL_setFailures) B (hts _ List.mem_cons_self)
  have hl := lv_entry ([.ref (a 0), .int x1, .int x2, .ref o]) (n := 5) (Nat.le_of_ble_eq_true rfl)
  rw [lg_entry_eq]
  generalize (lg_sl ([.ref (a 0), .int x1, .int x2, .ref o] : List Value) ++ List.replicate (5 - (lg_sl ([.ref (a 0), .int x1, .int x2, .ref o] : List Value)).length) Slot.unset).toArray = ls at hl ⊢
  have hl : lv_has ls 5 [(0, .ref (a 0)), (1, .int x1), (2, .int x2), (3, .ref o)] := hl
  generalize hFe : (f_X3_setFailures x1 x2 S) = F at hcd ⊢
  show W p l e ({ frames := 8, cells := 2, slots := 12, locals := 135 } : Room) s m ([.ref (a 0), .int x1, .int x2, .ref o] : List Value).toArray below meth c s.heap [] 0 0 (hQ below 2 12 G a o f (fun u => if u = 2 then 1 else if u = 0 then 2 else 0) F ([.ref (a 0), .int x1, .int x2, .ref o] : List Value).toArray s) (F0 m 0 ls [])
  refine lv_aload_n hx hb dL_setFailures_0 rfl (lv_at hl 3 rfl) ?_
  refine lv_iconst (v := 0) hx hb dL_setFailures_1 (by decide) ?_
  refine lv_aload_n hx hb dL_setFailures_2 rfl (lv_at hl 0 rfl) ?_
  refine lv_iload_n hx hb dL_setFailures_3 rfl (lv_at hl 1 rfl) ?_
  refine lv_iload_n hx hb dL_setFailures_4 rfl (lv_at hl 2 rfl) ?_
  have hM := (c_X3_setFailures l G a ha hst x1 x2 S hc3 s.heap.size)
  rw [hFe] at hM
  refine gxcH (As := [.int x1, .int x2]) (rest := [.int 0, .ref o]) hao hexc ⟨hx, hb, hml, hown, hts⟩ hK hP hPo hM (cwV 2 hts gL_setFailures_X3_setFailures rfl rfl rfl (by decide +kernel) ⟨Nat.le_of_ble_eq_true rfl, Nat.le_of_ble_eq_true rfl⟩) rfl hl.1 rfl (Nat.le_of_ble_eq_true rfl) dL_setFailures_5 ⟨Nat.le_of_ble_eq_true rfl, Nat.le_of_ble_eq_true rfl⟩ (fun u ce q9 H locs eu hP hPo hS hce hcv hcl => ?_) (fun p1 H locs ep hP hPo hS => ?_)
  · obtain ⟨u, S2⟩ := u
    rcases hcd u S2 eu.symm with hu | hu
    · subst hu
      refine vx_catch (name := exN 2) (E := exN 2) hown [] _ _ (htab.trans rfl) (fun _ h9 => nomatch h9) rfl (by decide) (hts (.classLink RL 28 "java/lang/IndexOutOfBoundsException") (by decide +kernel)) (xB_vm (Vm.Alike.refl s.vm) hexc.2.2.2 (.castable (exN 2) (exN 2)) (by decide +kernel)) hce hcv hcl ?_
      refine lv_astore (lv' := [(4, .ref q9), (0, .ref (a 0)), (1, .int x1), (2, .int x2), (3, .ref o)]) hx hb dL_setFailures_13 hl (by decide) rfl (fun ls hl => ?_)
      refine lv_iconst (v := 1) hx hb dL_setFailures_15 (by decide) ?_
      exact hRet (S := S2) hx hb hr hlocks hP hPo hS (by rw [← eu]; rfl) dL_setFailures_16
    · subst hu
      refine vx_catch (name := exN 0) (E := exN 0) hown [_] _ _ (htab.trans rfl) (fun w9 h9 => by rw [List.mem_singleton.mp h9]; exact Or.inr ⟨by decide, exN 2, hts (.classLink RL 28 "java/lang/IndexOutOfBoundsException") (by decide +kernel), hn02⟩) rfl (by decide) (hts (.classLink RL 13 "java/lang/IllegalArgumentException") (by decide +kernel)) (xB_vm (Vm.Alike.refl s.vm) hexc.2.2.2 (.castable (exN 0) (exN 0)) (by decide +kernel)) hce hcv hcl ?_
      refine lv_astore (lv' := [(4, .ref q9), (0, .ref (a 0)), (1, .int x1), (2, .int x2), (3, .ref o)]) hx hb dL_setFailures_17 hl (by decide) rfl (fun ls hl => ?_)
      refine lv_iconst (v := 2) hx hb dL_setFailures_19 (by decide) ?_
      exact hRet (S := S2) hx hb hr hlocks hP hPo hS (by rw [← eu]; rfl) dL_setFailures_20
  · refine lv_i2l hx hb dL_setFailures_8 rfl ?_
    refine hst0 hao hx hb hK ha hP hPo hS dL_setFailures_9 (fun H locs hP hPo hS => ?_)
    refine lv_goto (tgt := 21) hx hb dL_setFailures_10 (by decide) ?_
    refine lv_iconst (v := 0) hx hb dL_setFailures_21 (by decide) ?_
    exact hRet (S := p1.2) hx hb hr hlocks hP hPo hS (by rw [← ep]; rfl) dL_setFailures_22
set_option maxHeartbeats 4000000 in
set_option maxRecDepth 100000 in
theorem c_L_setTests (l : Launch) (G : WG) (a : Nat → Nat) (ha : wInj 20 a) (o : Nat) (hao : ∀ k, k < 20 → o ≠ a k) (hst : l.stackTraces = false) (x1 : Int32) (x2 : Int32) (x3 : Int32) (S : CS) (hc3 : ∃ N, N ≤ 3 ∧ S.1 5 = nI N) (f : Nat → Int64) (hcd : ∀ u S2, (f_X3_setTests x1 x2 x3 S) = Sum.inr (u, S2) → u = 2 ∨ u = 0) (sz : Nat) : hMi l yL_setTests wsL_setTests ({ frames := 8, cells := 2, slots := 12, locals := 136 }) 2 12 G a o [.ref (a 0), .int x1, .int x2, .int x3, .ref o] S f sz (fun u => if u = 2 then 1 else if u = 0 then 2 else 0) (f_X3_setTests x1 x2 x3 S) := by
  unfold hMi
  refine va_MetW (cc := cL_setTests) (maxL := 6) (ret := (some .int)) (hh := [(0, 12, 15, 28), (0, 12, 19, 13)]) (by decide) rfl ?_
  intro p e s m args below meth c s₁ B hml hv
  obtain ⟨rfl, rfl, ⟨hP, hPo⟩, hK, hexc, hn10, hn02⟩ := hv
  have hx := B.exec
  have hb := B.bytes
  have hr := B.returns
  have hts := atoms_spec (ws := wsL_setTests) B.pre
  have hown : s.vm.findClass RL = some m.cls := findClass_of_methodNamed B.named
  have hlocks := B.notSynchronized
  have htab : c.exceptionTable.toList = tableOf [(0, 12, 15, 28), (0, 12, 19, 13)] := vx_table (x := yL_setTests) B (hts _ List.mem_cons_self)
  have hl := lv_entry ([.ref (a 0), .int x1, .int x2, .int x3, .ref o]) (n := 6) (Nat.le_of_ble_eq_true rfl)
  rw [lg_entry_eq]
  generalize (lg_sl ([.ref (a 0), .int x1, .int x2, .int x3, .ref o] : List Value) ++ List.replicate (6 - (lg_sl ([.ref (a 0), .int x1, .int x2, .int x3, .ref o] : List Value)).length) Slot.unset).toArray = ls at hl ⊢
  have hl : lv_has ls 6 [(0, .ref (a 0)), (1, .int x1), (2, .int x2), (3, .int x3), (4, .ref o)] := hl
  generalize hFe : (f_X3_setTests x1 x2 x3 S) = F at hcd ⊢
  show W p l e ({ frames := 8, cells := 2, slots := 12, locals := 136 } : Room) s m ([.ref (a 0), .int x1, .int x2, .int x3, .ref o] : List Value).toArray below meth c s.heap [] 0 0 (hQ below 2 12 G a o f (fun u => if u = 2 then 1 else if u = 0 then 2 else 0) F ([.ref (a 0), .int x1, .int x2, .int x3, .ref o] : List Value).toArray s) (F0 m 0 ls [])
  refine lv_aload hx hb dL_setTests_0 (lv_at hl 4 rfl) ?_
  refine lv_iconst (v := 0) hx hb dL_setTests_2 (by decide) ?_
  refine lv_aload_n hx hb dL_setTests_3 rfl (lv_at hl 0 rfl) ?_
  refine lv_iload_n hx hb dL_setTests_4 rfl (lv_at hl 1 rfl) ?_
  refine lv_iload_n hx hb dL_setTests_5 rfl (lv_at hl 2 rfl) ?_
  refine lv_iload_n hx hb dL_setTests_6 rfl (lv_at hl 3 rfl) ?_
  have hM := (c_X3_setTests l G a ha hst x1 x2 x3 S hc3 s.heap.size)
  rw [hFe] at hM
  refine gxcH (As := [.int x1, .int x2, .int x3]) (rest := [.int 0, .ref o]) hao hexc ⟨hx, hb, hml, hown, hts⟩ hK hP hPo hM (cwV 3 hts gL_setTests_X3_setTests rfl rfl rfl (by decide +kernel) ⟨Nat.le_of_ble_eq_true rfl, Nat.le_of_ble_eq_true rfl⟩) rfl hl.1 rfl (Nat.le_of_ble_eq_true rfl) dL_setTests_7 ⟨Nat.le_of_ble_eq_true rfl, Nat.le_of_ble_eq_true rfl⟩ (fun u ce q9 H locs eu hP hPo hS hce hcv hcl => ?_) (fun p1 H locs ep hP hPo hS => ?_)
  · obtain ⟨u, S2⟩ := u
    rcases hcd u S2 eu.symm with hu | hu
    · subst hu
      refine vx_catch (name := exN 2) (E := exN 2) hown [] _ _ (htab.trans rfl) (fun _ h9 => nomatch h9) rfl (by decide) (hts (.classLink RL 28 "java/lang/IndexOutOfBoundsException") (by decide +kernel)) (xB_vm (Vm.Alike.refl s.vm) hexc.2.2.2 (.castable (exN 2) (exN 2)) (by decide +kernel)) hce hcv hcl ?_
      refine lv_astore (lv' := [(5, .ref q9), (0, .ref (a 0)), (1, .int x1), (2, .int x2), (3, .int x3), (4, .ref o)]) hx hb dL_setTests_15 hl (by decide) rfl (fun ls hl => ?_)
      refine lv_iconst (v := 1) hx hb dL_setTests_17 (by decide) ?_
      exact hRet (S := S2) hx hb hr hlocks hP hPo hS (by rw [← eu]; rfl) dL_setTests_18
    · subst hu
      refine vx_catch (name := exN 0) (E := exN 0) hown [_] _ _ (htab.trans rfl) (fun w9 h9 => by rw [List.mem_singleton.mp h9]; exact Or.inr ⟨by decide, exN 2, hts (.classLink RL 28 "java/lang/IndexOutOfBoundsException") (by decide +kernel), hn02⟩) rfl (by decide) (hts (.classLink RL 13 "java/lang/IllegalArgumentException") (by decide +kernel)) (xB_vm (Vm.Alike.refl s.vm) hexc.2.2.2 (.castable (exN 0) (exN 0)) (by decide +kernel)) hce hcv hcl ?_
      refine lv_astore (lv' := [(5, .ref q9), (0, .ref (a 0)), (1, .int x1), (2, .int x2), (3, .int x3), (4, .ref o)]) hx hb dL_setTests_19 hl (by decide) rfl (fun ls hl => ?_)
      refine lv_iconst (v := 2) hx hb dL_setTests_21 (by decide) ?_
      exact hRet (S := S2) hx hb hr hlocks hP hPo hS (by rw [← eu]; rfl) dL_setTests_22
  · refine lv_i2l hx hb dL_setTests_10 rfl ?_
    refine hst0 hao hx hb hK ha hP hPo hS dL_setTests_11 (fun H locs hP hPo hS => ?_)
    refine lv_goto (tgt := 23) hx hb dL_setTests_12 (by decide) ?_
    refine lv_iconst (v := 0) hx hb dL_setTests_23 (by decide) ?_
    exact hRet (S := p1.2) hx hb hr hlocks hP hPo hS (by rw [← ep]; rfl) dL_setTests_24
set_option maxHeartbeats 4000000 in
set_option maxRecDepth 100000 in
theorem c_L_setTimes (l : Launch) (G : WG) (a : Nat → Nat) (ha : wInj 20 a) (o : Nat) (hao : ∀ k, k < 20 → o ≠ a k) (hst : l.stackTraces = false) (x1 : Int32) (x2 : Int32) (S : CS) (f : Nat → Int64) (hcd : ∀ u S2, (f_X3_setTimes x1 x2 S) = Sum.inr (u, S2) → u = 0) (sz : Nat) : hMi l yL_setTimes wsL_setTimes ({ frames := 7, cells := 1, slots := 6, locals := 113 }) 1 6 G a o [.ref (a 0), .int x1, .int x2, .ref o] S f sz (fun u => if u = 0 then 1 else 0) (f_X3_setTimes x1 x2 S) := by
  unfold hMi
  refine va_MetW (cc := cL_setTimes) (maxL := 5) (ret := (some .int)) (hh := [(0, 10, 13, 13)]) (by decide) rfl ?_
  intro p e s m args below meth c s₁ B hml hv
  obtain ⟨rfl, rfl, ⟨hP, hPo⟩, hK, hexc, hn10, hn02⟩ := hv
  have hx := B.exec
  have hb := B.bytes
  have hr := B.returns
  have hts := atoms_spec (ws := wsL_setTimes) B.pre
  have hown : s.vm.findClass RL = some m.cls := findClass_of_methodNamed B.named
  have hlocks := B.notSynchronized
  have htab : c.exceptionTable.toList = tableOf [(0, 10, 13, 13)] := vx_table (x := yL_setTimes) B (hts _ List.mem_cons_self)
  have hl := lv_entry ([.ref (a 0), .int x1, .int x2, .ref o]) (n := 5) (Nat.le_of_ble_eq_true rfl)
  rw [lg_entry_eq]
  generalize (lg_sl ([.ref (a 0), .int x1, .int x2, .ref o] : List Value) ++ List.replicate (5 - (lg_sl ([.ref (a 0), .int x1, .int x2, .ref o] : List Value)).length) Slot.unset).toArray = ls at hl ⊢
  have hl : lv_has ls 5 [(0, .ref (a 0)), (1, .int x1), (2, .int x2), (3, .ref o)] := hl
  generalize hFe : (f_X3_setTimes x1 x2 S) = F at hcd ⊢
  show W p l e ({ frames := 7, cells := 1, slots := 6, locals := 113 } : Room) s m ([.ref (a 0), .int x1, .int x2, .ref o] : List Value).toArray below meth c s.heap [] 0 0 (hQ below 1 6 G a o f (fun u => if u = 0 then 1 else 0) F ([.ref (a 0), .int x1, .int x2, .ref o] : List Value).toArray s) (F0 m 0 ls [])
  refine lv_aload_n hx hb dL_setTimes_0 rfl (lv_at hl 3 rfl) ?_
  refine lv_iconst (v := 0) hx hb dL_setTimes_1 (by decide) ?_
  refine lv_aload_n hx hb dL_setTimes_2 rfl (lv_at hl 0 rfl) ?_
  refine lv_iload_n hx hb dL_setTimes_3 rfl (lv_at hl 1 rfl) ?_
  refine lv_iload_n hx hb dL_setTimes_4 rfl (lv_at hl 2 rfl) ?_
  have hM := (c_X3_setTimes l G a ha hst x1 x2 S s.heap.size)
  rw [hFe] at hM
  refine gxcH (As := [.int x1, .int x2]) (rest := [.int 0, .ref o]) hao hexc ⟨hx, hb, hml, hown, hts⟩ hK hP hPo hM (cwV 2 hts gL_setTimes_X3_setTimes rfl rfl rfl (by decide +kernel) ⟨Nat.le_of_ble_eq_true rfl, Nat.le_of_ble_eq_true rfl⟩) rfl hl.1 rfl (Nat.le_of_ble_eq_true rfl) dL_setTimes_5 ⟨Nat.le_of_ble_eq_true rfl, Nat.le_of_ble_eq_true rfl⟩ (fun u ce q9 H locs eu hP hPo hS hce hcv hcl => ?_) (fun p1 H locs ep hP hPo hS => ?_)
  · obtain ⟨u, S2⟩ := u
    have hu : u = 0 := hcd u S2 eu.symm
    subst hu
    refine vx_catch (name := exN 0) (E := exN 0) hown [] _ _ (htab.trans rfl) (fun _ h9 => nomatch h9) rfl (by decide) (hts (.classLink RL 13 "java/lang/IllegalArgumentException") (by decide +kernel)) (xB_vm (Vm.Alike.refl s.vm) hexc.2.2.2 (.castable (exN 0) (exN 0)) (by decide +kernel)) hce hcv hcl ?_
    refine lv_astore (lv' := [(4, .ref q9), (0, .ref (a 0)), (1, .int x1), (2, .int x2), (3, .ref o)]) hx hb dL_setTimes_13 hl (by decide) rfl (fun ls hl => ?_)
    refine lv_iconst (v := 1) hx hb dL_setTimes_15 (by decide) ?_
    exact hRet (S := S2) hx hb hr hlocks hP hPo hS (by rw [← eu]; rfl) dL_setTimes_16
  · refine lv_i2l hx hb dL_setTimes_8 rfl ?_
    refine hst0 hao hx hb hK ha hP hPo hS dL_setTimes_9 (fun H locs hP hPo hS => ?_)
    refine lv_goto (tgt := 17) hx hb dL_setTimes_10 (by decide) ?_
    refine lv_iconst (v := 0) hx hb dL_setTimes_17 (by decide) ?_
    exact hRet (S := p1.2) hx hb hr hlocks hP hPo hS (by rw [← ep]; rfl) dL_setTimes_18
set_option maxHeartbeats 4000000 in
set_option maxRecDepth 100000 in
theorem c_L_pass (l : Launch) (G : WG) (a : Nat → Nat) (ha : wInj 20 a) (o : Nat) (hao : ∀ k, k < 20 → o ≠ a k) (hst : l.stackTraces = false) (x1 : Int32) (S : CS) (f : Nat → Int64) (hcd : ∀ u S2, (f_X3_pass x1 S) = Sum.inr (u, S2) → u = 0) (sz : Nat) : hMi l yL_pass wsL_pass ({ frames := 7, cells := 1, slots := 6, locals := 141 }) 1 6 G a o [.ref (a 0), .int x1, .ref o] S f sz (fun u => if u = 0 then 1 else 0) (f_X3_pass x1 S) := by
  unfold hMi
  refine va_MetW (cc := cL_pass) (maxL := 4) (ret := (some .int)) (hh := [(0, 9, 12, 13)]) (by decide) rfl ?_
  intro p e s m args below meth c s₁ B hml hv
  obtain ⟨rfl, rfl, ⟨hP, hPo⟩, hK, hexc, hn10, hn02⟩ := hv
  have hx := B.exec
  have hb := B.bytes
  have hr := B.returns
  have hts := atoms_spec (ws := wsL_pass) B.pre
  have hown : s.vm.findClass RL = some m.cls := findClass_of_methodNamed B.named
  have hlocks := B.notSynchronized
  have htab : c.exceptionTable.toList = tableOf [(0, 9, 12, 13)] := vx_table (x := yL_pass) B (hts _ List.mem_cons_self)
  have hl := lv_entry ([.ref (a 0), .int x1, .ref o]) (n := 4) (Nat.le_of_ble_eq_true rfl)
  rw [lg_entry_eq]
  generalize (lg_sl ([.ref (a 0), .int x1, .ref o] : List Value) ++ List.replicate (4 - (lg_sl ([.ref (a 0), .int x1, .ref o] : List Value)).length) Slot.unset).toArray = ls at hl ⊢
  have hl : lv_has ls 4 [(0, .ref (a 0)), (1, .int x1), (2, .ref o)] := hl
  generalize hFe : (f_X3_pass x1 S) = F at hcd ⊢
  show W p l e ({ frames := 7, cells := 1, slots := 6, locals := 141 } : Room) s m ([.ref (a 0), .int x1, .ref o] : List Value).toArray below meth c s.heap [] 0 0 (hQ below 1 6 G a o f (fun u => if u = 0 then 1 else 0) F ([.ref (a 0), .int x1, .ref o] : List Value).toArray s) (F0 m 0 ls [])
  refine lv_aload_n hx hb dL_pass_0 rfl (lv_at hl 2 rfl) ?_
  refine lv_iconst (v := 0) hx hb dL_pass_1 (by decide) ?_
  refine lv_aload_n hx hb dL_pass_2 rfl (lv_at hl 0 rfl) ?_
  refine lv_iload_n hx hb dL_pass_3 rfl (lv_at hl 1 rfl) ?_
  have hM := (c_X3_pass l G a ha hst x1 S s.heap.size)
  rw [hFe] at hM
  refine gxcH (As := [.int x1]) (rest := [.int 0, .ref o]) hao hexc ⟨hx, hb, hml, hown, hts⟩ hK hP hPo hM (cwV 1 hts gL_pass_X3_pass rfl rfl rfl (by decide +kernel) ⟨Nat.le_of_ble_eq_true rfl, Nat.le_of_ble_eq_true rfl⟩) rfl hl.1 rfl (Nat.le_of_ble_eq_true rfl) dL_pass_4 ⟨Nat.le_of_ble_eq_true rfl, Nat.le_of_ble_eq_true rfl⟩ (fun u ce q9 H locs eu hP hPo hS hce hcv hcl => ?_) (fun p1 H locs ep hP hPo hS => ?_)
  · obtain ⟨u, S2⟩ := u
    have hu : u = 0 := hcd u S2 eu.symm
    subst hu
    refine vx_catch (name := exN 0) (E := exN 0) hown [] _ _ (htab.trans rfl) (fun _ h9 => nomatch h9) rfl (by decide) (hts (.classLink RL 13 "java/lang/IllegalArgumentException") (by decide +kernel)) (xB_vm (Vm.Alike.refl s.vm) hexc.2.2.2 (.castable (exN 0) (exN 0)) (by decide +kernel)) hce hcv hcl ?_
    refine lv_astore_n (lv' := [(3, .ref q9), (0, .ref (a 0)), (1, .int x1), (2, .ref o)]) hx hb dL_pass_12 rfl hl (by decide) rfl (fun ls hl => ?_)
    refine lv_iconst (v := 1) hx hb dL_pass_13 (by decide) ?_
    exact hRet (S := S2) hx hb hr hlocks hP hPo hS (by rw [← eu]; rfl) dL_pass_14
  · refine lv_i2l hx hb dL_pass_7 rfl ?_
    refine hst0 hao hx hb hK ha hP hPo hS dL_pass_8 (fun H locs hP hPo hS => ?_)
    refine lv_goto (tgt := 15) hx hb dL_pass_9 (by decide) ?_
    refine lv_iconst (v := 0) hx hb dL_pass_15 (by decide) ?_
    exact hRet (S := p1.2) hx hb hr hlocks hP hPo hS (by rw [← ep]; rfl) dL_pass_16
set_option maxHeartbeats 4000000 in
set_option maxRecDepth 100000 in
theorem c_L_stateOf (l : Launch) (G : WG) (a : Nat → Nat) (ha : wInj 20 a) (o : Nat) (hao : ∀ k, k < 20 → o ≠ a k) (hst : l.stackTraces = false) (x1 : Int32) (S : CS) (hc3 : ∃ N, N ≤ 10 ∧ S.1 3 = nI N) (f : Nat → Int64) (hcd : ∀ u S2, (f_X3_stateOf x1 S) = Sum.inr (u, S2) → u = 2) (sz : Nat) : hMi l yL_stateOf wsL_stateOf ({ frames := 8, cells := 1, slots := 6, locals := 132 }) 1 6 G a o [.ref (a 0), .int x1, .ref o] S f sz (fun u => if u = 2 then 1 else 0) (f_X3_stateOf x1 S) := by
  unfold hMi
  refine va_MetW (cc := cL_stateOf) (maxL := 4) (ret := (some .int)) (hh := [(0, 9, 12, 28)]) (by decide) rfl ?_
  intro p e s m args below meth c s₁ B hml hv
  obtain ⟨rfl, rfl, ⟨hP, hPo⟩, hK, hexc, hn10, hn02⟩ := hv
  have hx := B.exec
  have hb := B.bytes
  have hr := B.returns
  have hts := atoms_spec (ws := wsL_stateOf) B.pre
  have hown : s.vm.findClass RL = some m.cls := findClass_of_methodNamed B.named
  have hlocks := B.notSynchronized
  have htab : c.exceptionTable.toList = tableOf [(0, 9, 12, 28)] := vx_table (x := yL_stateOf) B (hts _ List.mem_cons_self)
  have hl := lv_entry ([.ref (a 0), .int x1, .ref o]) (n := 4) (Nat.le_of_ble_eq_true rfl)
  rw [lg_entry_eq]
  generalize (lg_sl ([.ref (a 0), .int x1, .ref o] : List Value) ++ List.replicate (4 - (lg_sl ([.ref (a 0), .int x1, .ref o] : List Value)).length) Slot.unset).toArray = ls at hl ⊢
  have hl : lv_has ls 4 [(0, .ref (a 0)), (1, .int x1), (2, .ref o)] := hl
  generalize hFe : (f_X3_stateOf x1 S) = F at hcd ⊢
  show W p l e ({ frames := 8, cells := 1, slots := 6, locals := 132 } : Room) s m ([.ref (a 0), .int x1, .ref o] : List Value).toArray below meth c s.heap [] 0 0 (hQ below 1 6 G a o f (fun u => if u = 2 then 1 else 0) F ([.ref (a 0), .int x1, .ref o] : List Value).toArray s) (F0 m 0 ls [])
  refine lv_aload_n hx hb dL_stateOf_0 rfl (lv_at hl 2 rfl) ?_
  refine lv_iconst (v := 0) hx hb dL_stateOf_1 (by decide) ?_
  refine lv_aload_n hx hb dL_stateOf_2 rfl (lv_at hl 0 rfl) ?_
  refine lv_iload_n hx hb dL_stateOf_3 rfl (lv_at hl 1 rfl) ?_
  have hM := (c_X3_stateOf l G a ha hst x1 S hc3 s.heap.size)
  rw [hFe] at hM
  refine gxcH (As := [.int x1]) (rest := [.int 0, .ref o]) hao hexc ⟨hx, hb, hml, hown, hts⟩ hK hP hPo hM (cwV 1 hts gL_stateOf_X3_stateOf rfl rfl rfl (by decide +kernel) ⟨Nat.le_of_ble_eq_true rfl, Nat.le_of_ble_eq_true rfl⟩) rfl hl.1 rfl (Nat.le_of_ble_eq_true rfl) dL_stateOf_4 ⟨Nat.le_of_ble_eq_true rfl, Nat.le_of_ble_eq_true rfl⟩ (fun u ce q9 H locs eu hP hPo hS hce hcv hcl => ?_) (fun p1 H locs ep hP hPo hS => ?_)
  · obtain ⟨u, S2⟩ := u
    have hu : u = 2 := hcd u S2 eu.symm
    subst hu
    refine vx_catch (name := exN 2) (E := exN 2) hown [] _ _ (htab.trans rfl) (fun _ h9 => nomatch h9) rfl (by decide) (hts (.classLink RL 28 "java/lang/IndexOutOfBoundsException") (by decide +kernel)) (xB_vm (Vm.Alike.refl s.vm) hexc.2.2.2 (.castable (exN 2) (exN 2)) (by decide +kernel)) hce hcv hcl ?_
    refine lv_astore_n (lv' := [(3, .ref q9), (0, .ref (a 0)), (1, .int x1), (2, .ref o)]) hx hb dL_stateOf_12 rfl hl (by decide) rfl (fun ls hl => ?_)
    refine lv_iconst (v := 1) hx hb dL_stateOf_13 (by decide) ?_
    exact hRet (S := S2) hx hb hr hlocks hP hPo hS (by rw [← eu]; rfl) dL_stateOf_14
  · refine lv_i2l hx hb dL_stateOf_7 rfl ?_
    refine hst0 hao hx hb hK ha hP hPo hS dL_stateOf_8 (fun H locs hP hPo hS => ?_)
    refine lv_goto (tgt := 15) hx hb dL_stateOf_9 (by decide) ?_
    refine lv_iconst (v := 0) hx hb dL_stateOf_15 (by decide) ?_
    exact hRet (S := p1.2) hx hb hr hlocks hP hPo hS (by rw [← ep]; rfl) dL_stateOf_16
set_option maxHeartbeats 4000000 in
set_option maxRecDepth 100000 in
theorem c_L_shedOrder (l : Launch) (G : WG) (a : Nat → Nat) (ha : wInj 20 a) (o : Nat) (hao : ∀ k, k < 20 → o ≠ a k) (hst : l.stackTraces = false) (x1 : Int32) (S : CS) (f : Nat → Int64) (hcd : ∀ u S2, (f_X3_shedOrder x1 S) = Sum.inr (u, S2) → u = 2) (sz : Nat) : hMi l yL_shedOrder wsL_shedOrder ({ frames := 8, cells := 1, slots := 6, locals := 137 }) 1 6 G a o [.ref (a 0), .int x1, .ref o] S f sz (fun u => if u = 2 then 1 else 0) (f_X3_shedOrder x1 S) := by
  unfold hMi
  refine va_MetW (cc := cL_shedOrder) (maxL := 4) (ret := (some .int)) (hh := [(0, 9, 12, 28)]) (by decide) rfl ?_
  intro p e s m args below meth c s₁ B hml hv
  obtain ⟨rfl, rfl, ⟨hP, hPo⟩, hK, hexc, hn10, hn02⟩ := hv
  have hx := B.exec
  have hb := B.bytes
  have hr := B.returns
  have hts := atoms_spec (ws := wsL_shedOrder) B.pre
  have hown : s.vm.findClass RL = some m.cls := findClass_of_methodNamed B.named
  have hlocks := B.notSynchronized
  have htab : c.exceptionTable.toList = tableOf [(0, 9, 12, 28)] := vx_table (x := yL_shedOrder) B (hts _ List.mem_cons_self)
  have hl := lv_entry ([.ref (a 0), .int x1, .ref o]) (n := 4) (Nat.le_of_ble_eq_true rfl)
  rw [lg_entry_eq]
  generalize (lg_sl ([.ref (a 0), .int x1, .ref o] : List Value) ++ List.replicate (4 - (lg_sl ([.ref (a 0), .int x1, .ref o] : List Value)).length) Slot.unset).toArray = ls at hl ⊢
  have hl : lv_has ls 4 [(0, .ref (a 0)), (1, .int x1), (2, .ref o)] := hl
  generalize hFe : (f_X3_shedOrder x1 S) = F at hcd ⊢
  show W p l e ({ frames := 8, cells := 1, slots := 6, locals := 137 } : Room) s m ([.ref (a 0), .int x1, .ref o] : List Value).toArray below meth c s.heap [] 0 0 (hQ below 1 6 G a o f (fun u => if u = 2 then 1 else 0) F ([.ref (a 0), .int x1, .ref o] : List Value).toArray s) (F0 m 0 ls [])
  refine lv_aload_n hx hb dL_shedOrder_0 rfl (lv_at hl 2 rfl) ?_
  refine lv_iconst (v := 0) hx hb dL_shedOrder_1 (by decide) ?_
  refine lv_aload_n hx hb dL_shedOrder_2 rfl (lv_at hl 0 rfl) ?_
  refine lv_iload_n hx hb dL_shedOrder_3 rfl (lv_at hl 1 rfl) ?_
  have hM := (c_X3_shedOrder l G a ha hst x1 S s.heap.size)
  rw [hFe] at hM
  refine gxcH (As := [.int x1]) (rest := [.int 0, .ref o]) hao hexc ⟨hx, hb, hml, hown, hts⟩ hK hP hPo hM (cwV 1 hts gL_shedOrder_X3_shedOrder rfl rfl rfl (by decide +kernel) ⟨Nat.le_of_ble_eq_true rfl, Nat.le_of_ble_eq_true rfl⟩) rfl hl.1 rfl (Nat.le_of_ble_eq_true rfl) dL_shedOrder_4 ⟨Nat.le_of_ble_eq_true rfl, Nat.le_of_ble_eq_true rfl⟩ (fun u ce q9 H locs eu hP hPo hS hce hcv hcl => ?_) (fun p1 H locs ep hP hPo hS => ?_)
  · obtain ⟨u, S2⟩ := u
    have hu : u = 2 := hcd u S2 eu.symm
    subst hu
    refine vx_catch (name := exN 2) (E := exN 2) hown [] _ _ (htab.trans rfl) (fun _ h9 => nomatch h9) rfl (by decide) (hts (.classLink RL 28 "java/lang/IndexOutOfBoundsException") (by decide +kernel)) (xB_vm (Vm.Alike.refl s.vm) hexc.2.2.2 (.castable (exN 2) (exN 2)) (by decide +kernel)) hce hcv hcl ?_
    refine lv_astore_n (lv' := [(3, .ref q9), (0, .ref (a 0)), (1, .int x1), (2, .ref o)]) hx hb dL_shedOrder_12 rfl hl (by decide) rfl (fun ls hl => ?_)
    refine lv_iconst (v := 1) hx hb dL_shedOrder_13 (by decide) ?_
    exact hRet (S := S2) hx hb hr hlocks hP hPo hS (by rw [← eu]; rfl) dL_shedOrder_14
  · refine lv_i2l hx hb dL_shedOrder_7 rfl ?_
    refine hst0 hao hx hb hK ha hP hPo hS dL_shedOrder_8 (fun H locs hP hPo hS => ?_)
    refine lv_goto (tgt := 15) hx hb dL_shedOrder_9 (by decide) ?_
    refine lv_iconst (v := 0) hx hb dL_shedOrder_15 (by decide) ?_
    exact hRet (S := p1.2) hx hb hr hlocks hP hPo hS (by rw [← ep]; rfl) dL_shedOrder_16
set_option maxHeartbeats 4000000 in
set_option maxRecDepth 100000 in
theorem c_L_returnOrder (l : Launch) (G : WG) (a : Nat → Nat) (ha : wInj 20 a) (o : Nat) (hao : ∀ k, k < 20 → o ≠ a k) (hst : l.stackTraces = false) (x1 : Int32) (S : CS) (f : Nat → Int64) (hcd : ∀ u S2, (f_X3_returnOrder x1 S) = Sum.inr (u, S2) → u = 2) (sz : Nat) : hMi l yL_returnOrder wsL_returnOrder ({ frames := 8, cells := 1, slots := 6, locals := 137 }) 1 6 G a o [.ref (a 0), .int x1, .ref o] S f sz (fun u => if u = 2 then 1 else 0) (f_X3_returnOrder x1 S) := by
  unfold hMi
  refine va_MetW (cc := cL_returnOrder) (maxL := 4) (ret := (some .int)) (hh := [(0, 9, 12, 28)]) (by decide) rfl ?_
  intro p e s m args below meth c s₁ B hml hv
  obtain ⟨rfl, rfl, ⟨hP, hPo⟩, hK, hexc, hn10, hn02⟩ := hv
  have hx := B.exec
  have hb := B.bytes
  have hr := B.returns
  have hts := atoms_spec (ws := wsL_returnOrder) B.pre
  have hown : s.vm.findClass RL = some m.cls := findClass_of_methodNamed B.named
  have hlocks := B.notSynchronized
  have htab : c.exceptionTable.toList = tableOf [(0, 9, 12, 28)] := vx_table (x := yL_returnOrder) B (hts _ List.mem_cons_self)
  have hl := lv_entry ([.ref (a 0), .int x1, .ref o]) (n := 4) (Nat.le_of_ble_eq_true rfl)
  rw [lg_entry_eq]
  generalize (lg_sl ([.ref (a 0), .int x1, .ref o] : List Value) ++ List.replicate (4 - (lg_sl ([.ref (a 0), .int x1, .ref o] : List Value)).length) Slot.unset).toArray = ls at hl ⊢
  have hl : lv_has ls 4 [(0, .ref (a 0)), (1, .int x1), (2, .ref o)] := hl
  generalize hFe : (f_X3_returnOrder x1 S) = F at hcd ⊢
  show W p l e ({ frames := 8, cells := 1, slots := 6, locals := 137 } : Room) s m ([.ref (a 0), .int x1, .ref o] : List Value).toArray below meth c s.heap [] 0 0 (hQ below 1 6 G a o f (fun u => if u = 2 then 1 else 0) F ([.ref (a 0), .int x1, .ref o] : List Value).toArray s) (F0 m 0 ls [])
  refine lv_aload_n hx hb dL_returnOrder_0 rfl (lv_at hl 2 rfl) ?_
  refine lv_iconst (v := 0) hx hb dL_returnOrder_1 (by decide) ?_
  refine lv_aload_n hx hb dL_returnOrder_2 rfl (lv_at hl 0 rfl) ?_
  refine lv_iload_n hx hb dL_returnOrder_3 rfl (lv_at hl 1 rfl) ?_
  have hM := (c_X3_returnOrder l G a ha hst x1 S s.heap.size)
  rw [hFe] at hM
  refine gxcH (As := [.int x1]) (rest := [.int 0, .ref o]) hao hexc ⟨hx, hb, hml, hown, hts⟩ hK hP hPo hM (cwV 1 hts gL_returnOrder_X3_returnOrder rfl rfl rfl (by decide +kernel) ⟨Nat.le_of_ble_eq_true rfl, Nat.le_of_ble_eq_true rfl⟩) rfl hl.1 rfl (Nat.le_of_ble_eq_true rfl) dL_returnOrder_4 ⟨Nat.le_of_ble_eq_true rfl, Nat.le_of_ble_eq_true rfl⟩ (fun u ce q9 H locs eu hP hPo hS hce hcv hcl => ?_) (fun p1 H locs ep hP hPo hS => ?_)
  · obtain ⟨u, S2⟩ := u
    have hu : u = 2 := hcd u S2 eu.symm
    subst hu
    refine vx_catch (name := exN 2) (E := exN 2) hown [] _ _ (htab.trans rfl) (fun _ h9 => nomatch h9) rfl (by decide) (hts (.classLink RL 28 "java/lang/IndexOutOfBoundsException") (by decide +kernel)) (xB_vm (Vm.Alike.refl s.vm) hexc.2.2.2 (.castable (exN 2) (exN 2)) (by decide +kernel)) hce hcv hcl ?_
    refine lv_astore_n (lv' := [(3, .ref q9), (0, .ref (a 0)), (1, .int x1), (2, .ref o)]) hx hb dL_returnOrder_12 rfl hl (by decide) rfl (fun ls hl => ?_)
    refine lv_iconst (v := 1) hx hb dL_returnOrder_13 (by decide) ?_
    exact hRet (S := S2) hx hb hr hlocks hP hPo hS (by rw [← eu]; rfl) dL_returnOrder_14
  · refine lv_i2l hx hb dL_returnOrder_7 rfl ?_
    refine hst0 hao hx hb hK ha hP hPo hS dL_returnOrder_8 (fun H locs hP hPo hS => ?_)
    refine lv_goto (tgt := 15) hx hb dL_returnOrder_9 (by decide) ?_
    refine lv_iconst (v := 0) hx hb dL_returnOrder_15 (by decide) ?_
    exact hRet (S := p1.2) hx hb hr hlocks hP hPo hS (by rw [← ep]; rfl) dL_returnOrder_16
set_option maxHeartbeats 4000000 in
set_option maxRecDepth 100000 in
theorem c_L_chargeOf (l : Launch) (G : WG) (a : Nat → Nat) (ha : wInj 20 a) (o : Nat) (hao : ∀ k, k < 20 → o ≠ a k) (hst : l.stackTraces = false) (x1 : Int32) (S : CS) (hc3 : ∃ N, N ≤ 3 ∧ S.1 4 = nI N) (f : Nat → Int64) (hcd : ∀ u S2, (f_X3_chargeOf x1 S) = Sum.inr (u, S2) → u = 2) (sz : Nat) : hMi l yL_chargeOf wsL_chargeOf ({ frames := 8, cells := 1, slots := 6, locals := 132 }) 1 6 G a o [.ref (a 0), .int x1, .ref o] S f sz (fun u => if u = 2 then 1 else 0) (f_X3_chargeOf x1 S) := by
  unfold hMi
  refine va_MetW (cc := cL_chargeOf) (maxL := 4) (ret := (some .int)) (hh := [(0, 9, 12, 28)]) (by decide) rfl ?_
  intro p e s m args below meth c s₁ B hml hv
  obtain ⟨rfl, rfl, ⟨hP, hPo⟩, hK, hexc, hn10, hn02⟩ := hv
  have hx := B.exec
  have hb := B.bytes
  have hr := B.returns
  have hts := atoms_spec (ws := wsL_chargeOf) B.pre
  have hown : s.vm.findClass RL = some m.cls := findClass_of_methodNamed B.named
  have hlocks := B.notSynchronized
  have htab : c.exceptionTable.toList = tableOf [(0, 9, 12, 28)] := vx_table (x := yL_chargeOf) B (hts _ List.mem_cons_self)
  have hl := lv_entry ([.ref (a 0), .int x1, .ref o]) (n := 4) (Nat.le_of_ble_eq_true rfl)
  rw [lg_entry_eq]
  generalize (lg_sl ([.ref (a 0), .int x1, .ref o] : List Value) ++ List.replicate (4 - (lg_sl ([.ref (a 0), .int x1, .ref o] : List Value)).length) Slot.unset).toArray = ls at hl ⊢
  have hl : lv_has ls 4 [(0, .ref (a 0)), (1, .int x1), (2, .ref o)] := hl
  generalize hFe : (f_X3_chargeOf x1 S) = F at hcd ⊢
  show W p l e ({ frames := 8, cells := 1, slots := 6, locals := 132 } : Room) s m ([.ref (a 0), .int x1, .ref o] : List Value).toArray below meth c s.heap [] 0 0 (hQ below 1 6 G a o f (fun u => if u = 2 then 1 else 0) F ([.ref (a 0), .int x1, .ref o] : List Value).toArray s) (F0 m 0 ls [])
  refine lv_aload_n hx hb dL_chargeOf_0 rfl (lv_at hl 2 rfl) ?_
  refine lv_iconst (v := 0) hx hb dL_chargeOf_1 (by decide) ?_
  refine lv_aload_n hx hb dL_chargeOf_2 rfl (lv_at hl 0 rfl) ?_
  refine lv_iload_n hx hb dL_chargeOf_3 rfl (lv_at hl 1 rfl) ?_
  have hM := (c_X3_chargeOf l G a ha hst x1 S hc3 s.heap.size)
  rw [hFe] at hM
  refine gxcH (As := [.int x1]) (rest := [.int 0, .ref o]) hao hexc ⟨hx, hb, hml, hown, hts⟩ hK hP hPo hM (cwV 1 hts gL_chargeOf_X3_chargeOf rfl rfl rfl (by decide +kernel) ⟨Nat.le_of_ble_eq_true rfl, Nat.le_of_ble_eq_true rfl⟩) rfl hl.1 rfl (Nat.le_of_ble_eq_true rfl) dL_chargeOf_4 ⟨Nat.le_of_ble_eq_true rfl, Nat.le_of_ble_eq_true rfl⟩ (fun u ce q9 H locs eu hP hPo hS hce hcv hcl => ?_) (fun p1 H locs ep hP hPo hS => ?_)
  · obtain ⟨u, S2⟩ := u
    have hu : u = 2 := hcd u S2 eu.symm
    subst hu
    refine vx_catch (name := exN 2) (E := exN 2) hown [] _ _ (htab.trans rfl) (fun _ h9 => nomatch h9) rfl (by decide) (hts (.classLink RL 28 "java/lang/IndexOutOfBoundsException") (by decide +kernel)) (xB_vm (Vm.Alike.refl s.vm) hexc.2.2.2 (.castable (exN 2) (exN 2)) (by decide +kernel)) hce hcv hcl ?_
    refine lv_astore_n (lv' := [(3, .ref q9), (0, .ref (a 0)), (1, .int x1), (2, .ref o)]) hx hb dL_chargeOf_12 rfl hl (by decide) rfl (fun ls hl => ?_)
    refine lv_iconst (v := 1) hx hb dL_chargeOf_13 (by decide) ?_
    exact hRet (S := S2) hx hb hr hlocks hP hPo hS (by rw [← eu]; rfl) dL_chargeOf_14
  · refine lv_i2l hx hb dL_chargeOf_7 rfl ?_
    refine hst0 hao hx hb hK ha hP hPo hS dL_chargeOf_8 (fun H locs hP hPo hS => ?_)
    refine lv_goto (tgt := 15) hx hb dL_chargeOf_9 (by decide) ?_
    refine lv_iconst (v := 0) hx hb dL_chargeOf_15 (by decide) ?_
    exact hRet (S := p1.2) hx hb hr hlocks hP hPo hS (by rw [← ep]; rfl) dL_chargeOf_16
set_option maxHeartbeats 4000000 in
set_option maxRecDepth 100000 in
theorem c_L_capacityOf (l : Launch) (G : WG) (a : Nat → Nat) (ha : wInj 20 a) (o : Nat) (hao : ∀ k, k < 20 → o ≠ a k) (hst : l.stackTraces = false) (x1 : Int32) (S : CS) (hc3 : ∃ N, N ≤ 3 ∧ S.1 4 = nI N) (f : Nat → Int64) (hcd : ∀ u S2, (f_X3_capacityOf x1 S) = Sum.inr (u, S2) → u = 2) (sz : Nat) : hMi l yL_capacityOf wsL_capacityOf ({ frames := 8, cells := 1, slots := 6, locals := 132 }) 1 6 G a o [.ref (a 0), .int x1, .ref o] S f sz (fun u => if u = 2 then 1 else 0) (f_X3_capacityOf x1 S) := by
  unfold hMi
  refine va_MetW (cc := cL_capacityOf) (maxL := 4) (ret := (some .int)) (hh := [(0, 9, 12, 28)]) (by decide) rfl ?_
  intro p e s m args below meth c s₁ B hml hv
  obtain ⟨rfl, rfl, ⟨hP, hPo⟩, hK, hexc, hn10, hn02⟩ := hv
  have hx := B.exec
  have hb := B.bytes
  have hr := B.returns
  have hts := atoms_spec (ws := wsL_capacityOf) B.pre
  have hown : s.vm.findClass RL = some m.cls := findClass_of_methodNamed B.named
  have hlocks := B.notSynchronized
  have htab : c.exceptionTable.toList = tableOf [(0, 9, 12, 28)] := vx_table (x := yL_capacityOf) B (hts _ List.mem_cons_self)
  have hl := lv_entry ([.ref (a 0), .int x1, .ref o]) (n := 4) (Nat.le_of_ble_eq_true rfl)
  rw [lg_entry_eq]
  generalize (lg_sl ([.ref (a 0), .int x1, .ref o] : List Value) ++ List.replicate (4 - (lg_sl ([.ref (a 0), .int x1, .ref o] : List Value)).length) Slot.unset).toArray = ls at hl ⊢
  have hl : lv_has ls 4 [(0, .ref (a 0)), (1, .int x1), (2, .ref o)] := hl
  generalize hFe : (f_X3_capacityOf x1 S) = F at hcd ⊢
  show W p l e ({ frames := 8, cells := 1, slots := 6, locals := 132 } : Room) s m ([.ref (a 0), .int x1, .ref o] : List Value).toArray below meth c s.heap [] 0 0 (hQ below 1 6 G a o f (fun u => if u = 2 then 1 else 0) F ([.ref (a 0), .int x1, .ref o] : List Value).toArray s) (F0 m 0 ls [])
  refine lv_aload_n hx hb dL_capacityOf_0 rfl (lv_at hl 2 rfl) ?_
  refine lv_iconst (v := 0) hx hb dL_capacityOf_1 (by decide) ?_
  refine lv_aload_n hx hb dL_capacityOf_2 rfl (lv_at hl 0 rfl) ?_
  refine lv_iload_n hx hb dL_capacityOf_3 rfl (lv_at hl 1 rfl) ?_
  have hM := (c_X3_capacityOf l G a ha hst x1 S hc3 s.heap.size)
  rw [hFe] at hM
  refine gxcH (As := [.int x1]) (rest := [.int 0, .ref o]) hao hexc ⟨hx, hb, hml, hown, hts⟩ hK hP hPo hM (cwV 1 hts gL_capacityOf_X3_capacityOf rfl rfl rfl (by decide +kernel) ⟨Nat.le_of_ble_eq_true rfl, Nat.le_of_ble_eq_true rfl⟩) rfl hl.1 rfl (Nat.le_of_ble_eq_true rfl) dL_capacityOf_4 ⟨Nat.le_of_ble_eq_true rfl, Nat.le_of_ble_eq_true rfl⟩ (fun u ce q9 H locs eu hP hPo hS hce hcv hcl => ?_) (fun p1 H locs ep hP hPo hS => ?_)
  · obtain ⟨u, S2⟩ := u
    have hu : u = 2 := hcd u S2 eu.symm
    subst hu
    refine vx_catch (name := exN 2) (E := exN 2) hown [] _ _ (htab.trans rfl) (fun _ h9 => nomatch h9) rfl (by decide) (hts (.classLink RL 28 "java/lang/IndexOutOfBoundsException") (by decide +kernel)) (xB_vm (Vm.Alike.refl s.vm) hexc.2.2.2 (.castable (exN 2) (exN 2)) (by decide +kernel)) hce hcv hcl ?_
    refine lv_astore_n (lv' := [(3, .ref q9), (0, .ref (a 0)), (1, .int x1), (2, .ref o)]) hx hb dL_capacityOf_12 rfl hl (by decide) rfl (fun ls hl => ?_)
    refine lv_iconst (v := 1) hx hb dL_capacityOf_13 (by decide) ?_
    exact hRet (S := S2) hx hb hr hlocks hP hPo hS (by rw [← eu]; rfl) dL_capacityOf_14
  · refine lv_i2l hx hb dL_capacityOf_7 rfl ?_
    refine hst0 hao hx hb hK ha hP hPo hS dL_capacityOf_8 (fun H locs hP hPo hS => ?_)
    refine lv_goto (tgt := 15) hx hb dL_capacityOf_9 (by decide) ?_
    refine lv_iconst (v := 0) hx hb dL_capacityOf_15 (by decide) ?_
    exact hRet (S := p1.2) hx hb hr hlocks hP hPo hS (by rw [← ep]; rfl) dL_capacityOf_16
set_option maxHeartbeats 4000000 in
set_option maxRecDepth 100000 in
theorem c_L_generatorState (l : Launch) (G : WG) (a : Nat → Nat) (ha : wInj 20 a) (o : Nat) (hao : ∀ k, k < 20 → o ≠ a k) (hst : l.stackTraces = false) (x1 : Int32) (S : CS) (hc3 : ∃ N, N ≤ 3 ∧ S.1 5 = nI N) (f : Nat → Int64) (hcd : ∀ u S2, (f_X3_generatorState x1 S) = Sum.inr (u, S2) → u = 2) (sz : Nat) : hMi l yL_generatorState wsL_generatorState ({ frames := 8, cells := 1, slots := 6, locals := 133 }) 1 6 G a o [.ref (a 0), .int x1, .ref o] S f sz (fun u => if u = 2 then 1 else 0) (f_X3_generatorState x1 S) := by
  unfold hMi
  refine va_MetW (cc := cL_generatorState) (maxL := 4) (ret := (some .int)) (hh := [(0, 9, 12, 28)]) (by decide) rfl ?_
  intro p e s m args below meth c s₁ B hml hv
  obtain ⟨rfl, rfl, ⟨hP, hPo⟩, hK, hexc, hn10, hn02⟩ := hv
  have hx := B.exec
  have hb := B.bytes
  have hr := B.returns
  have hts := atoms_spec (ws := wsL_generatorState) B.pre
  have hown : s.vm.findClass RL = some m.cls := findClass_of_methodNamed B.named
  have hlocks := B.notSynchronized
  have htab : c.exceptionTable.toList = tableOf [(0, 9, 12, 28)] := vx_table (x := yL_generatorState) B (hts _ List.mem_cons_self)
  have hl := lv_entry ([.ref (a 0), .int x1, .ref o]) (n := 4) (Nat.le_of_ble_eq_true rfl)
  rw [lg_entry_eq]
  generalize (lg_sl ([.ref (a 0), .int x1, .ref o] : List Value) ++ List.replicate (4 - (lg_sl ([.ref (a 0), .int x1, .ref o] : List Value)).length) Slot.unset).toArray = ls at hl ⊢
  have hl : lv_has ls 4 [(0, .ref (a 0)), (1, .int x1), (2, .ref o)] := hl
  generalize hFe : (f_X3_generatorState x1 S) = F at hcd ⊢
  show W p l e ({ frames := 8, cells := 1, slots := 6, locals := 133 } : Room) s m ([.ref (a 0), .int x1, .ref o] : List Value).toArray below meth c s.heap [] 0 0 (hQ below 1 6 G a o f (fun u => if u = 2 then 1 else 0) F ([.ref (a 0), .int x1, .ref o] : List Value).toArray s) (F0 m 0 ls [])
  refine lv_aload_n hx hb dL_generatorState_0 rfl (lv_at hl 2 rfl) ?_
  refine lv_iconst (v := 0) hx hb dL_generatorState_1 (by decide) ?_
  refine lv_aload_n hx hb dL_generatorState_2 rfl (lv_at hl 0 rfl) ?_
  refine lv_iload_n hx hb dL_generatorState_3 rfl (lv_at hl 1 rfl) ?_
  have hM := (c_X3_generatorState l G a ha hst x1 S hc3 s.heap.size)
  rw [hFe] at hM
  refine gxcH (As := [.int x1]) (rest := [.int 0, .ref o]) hao hexc ⟨hx, hb, hml, hown, hts⟩ hK hP hPo hM (cwV 1 hts gL_generatorState_X3_generatorState rfl rfl rfl (by decide +kernel) ⟨Nat.le_of_ble_eq_true rfl, Nat.le_of_ble_eq_true rfl⟩) rfl hl.1 rfl (Nat.le_of_ble_eq_true rfl) dL_generatorState_4 ⟨Nat.le_of_ble_eq_true rfl, Nat.le_of_ble_eq_true rfl⟩ (fun u ce q9 H locs eu hP hPo hS hce hcv hcl => ?_) (fun p1 H locs ep hP hPo hS => ?_)
  · obtain ⟨u, S2⟩ := u
    have hu : u = 2 := hcd u S2 eu.symm
    subst hu
    refine vx_catch (name := exN 2) (E := exN 2) hown [] _ _ (htab.trans rfl) (fun _ h9 => nomatch h9) rfl (by decide) (hts (.classLink RL 28 "java/lang/IndexOutOfBoundsException") (by decide +kernel)) (xB_vm (Vm.Alike.refl s.vm) hexc.2.2.2 (.castable (exN 2) (exN 2)) (by decide +kernel)) hce hcv hcl ?_
    refine lv_astore_n (lv' := [(3, .ref q9), (0, .ref (a 0)), (1, .int x1), (2, .ref o)]) hx hb dL_generatorState_12 rfl hl (by decide) rfl (fun ls hl => ?_)
    refine lv_iconst (v := 1) hx hb dL_generatorState_13 (by decide) ?_
    exact hRet (S := S2) hx hb hr hlocks hP hPo hS (by rw [← eu]; rfl) dL_generatorState_14
  · refine lv_i2l hx hb dL_generatorState_7 rfl ?_
    refine hst0 hao hx hb hK ha hP hPo hS dL_generatorState_8 (fun H locs hP hPo hS => ?_)
    refine lv_goto (tgt := 15) hx hb dL_generatorState_9 (by decide) ?_
    refine lv_iconst (v := 0) hx hb dL_generatorState_15 (by decide) ?_
    exact hRet (S := p1.2) hx hb hr hlocks hP hPo hS (by rw [← ep]; rfl) dL_generatorState_16
set_option maxHeartbeats 4000000 in
set_option maxRecDepth 100000 in
theorem c_L_fuelOf (l : Launch) (G : WG) (a : Nat → Nat) (ha : wInj 20 a) (o : Nat) (hao : ∀ k, k < 20 → o ≠ a k) (hst : l.stackTraces = false) (x1 : Int32) (S : CS) (hc3 : ∃ N, N ≤ 3 ∧ S.1 5 = nI N) (f : Nat → Int64) (hcd : ∀ u S2, (f_X3_fuelOf x1 S) = Sum.inr (u, S2) → u = 2) (sz : Nat) : hMi l yL_fuelOf wsL_fuelOf ({ frames := 8, cells := 1, slots := 6, locals := 132 }) 1 6 G a o [.ref (a 0), .int x1, .ref o] S f sz (fun u => if u = 2 then 1 else 0) (f_X3_fuelOf x1 S) := by
  unfold hMi
  refine va_MetW (cc := cL_fuelOf) (maxL := 4) (ret := (some .int)) (hh := [(0, 9, 12, 28)]) (by decide) rfl ?_
  intro p e s m args below meth c s₁ B hml hv
  obtain ⟨rfl, rfl, ⟨hP, hPo⟩, hK, hexc, hn10, hn02⟩ := hv
  have hx := B.exec
  have hb := B.bytes
  have hr := B.returns
  have hts := atoms_spec (ws := wsL_fuelOf) B.pre
  have hown : s.vm.findClass RL = some m.cls := findClass_of_methodNamed B.named
  have hlocks := B.notSynchronized
  have htab : c.exceptionTable.toList = tableOf [(0, 9, 12, 28)] := vx_table (x := yL_fuelOf) B (hts _ List.mem_cons_self)
  have hl := lv_entry ([.ref (a 0), .int x1, .ref o]) (n := 4) (Nat.le_of_ble_eq_true rfl)
  rw [lg_entry_eq]
  generalize (lg_sl ([.ref (a 0), .int x1, .ref o] : List Value) ++ List.replicate (4 - (lg_sl ([.ref (a 0), .int x1, .ref o] : List Value)).length) Slot.unset).toArray = ls at hl ⊢
  have hl : lv_has ls 4 [(0, .ref (a 0)), (1, .int x1), (2, .ref o)] := hl
  generalize hFe : (f_X3_fuelOf x1 S) = F at hcd ⊢
  show W p l e ({ frames := 8, cells := 1, slots := 6, locals := 132 } : Room) s m ([.ref (a 0), .int x1, .ref o] : List Value).toArray below meth c s.heap [] 0 0 (hQ below 1 6 G a o f (fun u => if u = 2 then 1 else 0) F ([.ref (a 0), .int x1, .ref o] : List Value).toArray s) (F0 m 0 ls [])
  refine lv_aload_n hx hb dL_fuelOf_0 rfl (lv_at hl 2 rfl) ?_
  refine lv_iconst (v := 0) hx hb dL_fuelOf_1 (by decide) ?_
  refine lv_aload_n hx hb dL_fuelOf_2 rfl (lv_at hl 0 rfl) ?_
  refine lv_iload_n hx hb dL_fuelOf_3 rfl (lv_at hl 1 rfl) ?_
  have hM := (c_X3_fuelOf l G a ha hst x1 S hc3 s.heap.size)
  rw [hFe] at hM
  refine gxcH (As := [.int x1]) (rest := [.int 0, .ref o]) hao hexc ⟨hx, hb, hml, hown, hts⟩ hK hP hPo hM (cwV 1 hts gL_fuelOf_X3_fuelOf rfl rfl rfl (by decide +kernel) ⟨Nat.le_of_ble_eq_true rfl, Nat.le_of_ble_eq_true rfl⟩) rfl hl.1 rfl (Nat.le_of_ble_eq_true rfl) dL_fuelOf_4 ⟨Nat.le_of_ble_eq_true rfl, Nat.le_of_ble_eq_true rfl⟩ (fun u ce q9 H locs eu hP hPo hS hce hcv hcl => ?_) (fun p1 H locs ep hP hPo hS => ?_)
  · obtain ⟨u, S2⟩ := u
    have hu : u = 2 := hcd u S2 eu.symm
    subst hu
    refine vx_catch (name := exN 2) (E := exN 2) hown [] _ _ (htab.trans rfl) (fun _ h9 => nomatch h9) rfl (by decide) (hts (.classLink RL 28 "java/lang/IndexOutOfBoundsException") (by decide +kernel)) (xB_vm (Vm.Alike.refl s.vm) hexc.2.2.2 (.castable (exN 2) (exN 2)) (by decide +kernel)) hce hcv hcl ?_
    refine lv_astore_n (lv' := [(3, .ref q9), (0, .ref (a 0)), (1, .int x1), (2, .ref o)]) hx hb dL_fuelOf_12 rfl hl (by decide) rfl (fun ls hl => ?_)
    refine lv_iconst (v := 1) hx hb dL_fuelOf_13 (by decide) ?_
    exact hRet (S := S2) hx hb hr hlocks hP hPo hS (by rw [← eu]; rfl) dL_fuelOf_14
  · refine lv_i2l hx hb dL_fuelOf_7 rfl ?_
    refine hst0 hao hx hb hK ha hP hPo hS dL_fuelOf_8 (fun H locs hP hPo hS => ?_)
    refine lv_goto (tgt := 15) hx hb dL_fuelOf_9 (by decide) ?_
    refine lv_iconst (v := 0) hx hb dL_fuelOf_15 (by decide) ?_
    exact hRet (S := p1.2) hx hb hr hlocks hP hPo hS (by rw [← ep]; rfl) dL_fuelOf_16
set_option maxHeartbeats 4000000 in
set_option maxRecDepth 100000 in
theorem c_L_energyOf (l : Launch) (G : WG) (a : Nat → Nat) (ha : wInj 20 a) (o : Nat) (hao : ∀ k, k < 20 → o ≠ a k) (hst : l.stackTraces = false) (x1 : Int32) (S : CS) (hc3 : ∃ N, N ≤ 10 ∧ S.1 3 = nI N) (f : Nat → Int64) (hcd : ∀ u S2, (f_X3_energyOf x1 S) = Sum.inr (u, S2) → u = 2) (sz : Nat) : hMi l yL_energyOf wsL_energyOf ({ frames := 8, cells := 1, slots := 6, locals := 132 }) 1 6 G a o [.ref (a 0), .int x1, .ref o] S f sz (fun u => if u = 2 then 1 else 0) (f_X3_energyOf x1 S) := by
  unfold hMi
  refine va_MetW (cc := cL_energyOf) (maxL := 4) (ret := (some .int)) (hh := [(0, 9, 12, 28)]) (by decide) rfl ?_
  intro p e s m args below meth c s₁ B hml hv
  obtain ⟨rfl, rfl, ⟨hP, hPo⟩, hK, hexc, hn10, hn02⟩ := hv
  have hx := B.exec
  have hb := B.bytes
  have hr := B.returns
  have hts := atoms_spec (ws := wsL_energyOf) B.pre
  have hown : s.vm.findClass RL = some m.cls := findClass_of_methodNamed B.named
  have hlocks := B.notSynchronized
  have htab : c.exceptionTable.toList = tableOf [(0, 9, 12, 28)] := vx_table (x := yL_energyOf) B (hts _ List.mem_cons_self)
  have hl := lv_entry ([.ref (a 0), .int x1, .ref o]) (n := 4) (Nat.le_of_ble_eq_true rfl)
  rw [lg_entry_eq]
  generalize (lg_sl ([.ref (a 0), .int x1, .ref o] : List Value) ++ List.replicate (4 - (lg_sl ([.ref (a 0), .int x1, .ref o] : List Value)).length) Slot.unset).toArray = ls at hl ⊢
  have hl : lv_has ls 4 [(0, .ref (a 0)), (1, .int x1), (2, .ref o)] := hl
  generalize hFe : (f_X3_energyOf x1 S) = F at hcd ⊢
  show W p l e ({ frames := 8, cells := 1, slots := 6, locals := 132 } : Room) s m ([.ref (a 0), .int x1, .ref o] : List Value).toArray below meth c s.heap [] 0 0 (hQ below 1 6 G a o f (fun u => if u = 2 then 1 else 0) F ([.ref (a 0), .int x1, .ref o] : List Value).toArray s) (F0 m 0 ls [])
  refine lv_aload_n hx hb dL_energyOf_0 rfl (lv_at hl 2 rfl) ?_
  refine lv_iconst (v := 0) hx hb dL_energyOf_1 (by decide) ?_
  refine lv_aload_n hx hb dL_energyOf_2 rfl (lv_at hl 0 rfl) ?_
  refine lv_iload_n hx hb dL_energyOf_3 rfl (lv_at hl 1 rfl) ?_
  have hM := (c_X3_energyOf l G a ha hst x1 S hc3 s.heap.size)
  rw [hFe] at hM
  refine gxcH (As := [.int x1]) (rest := [.int 0, .ref o]) hao hexc ⟨hx, hb, hml, hown, hts⟩ hK hP hPo hM (cwV 1 hts gL_energyOf_X3_energyOf rfl rfl rfl (by decide +kernel) ⟨Nat.le_of_ble_eq_true rfl, Nat.le_of_ble_eq_true rfl⟩) rfl hl.1 rfl (Nat.le_of_ble_eq_true rfl) dL_energyOf_4 ⟨Nat.le_of_ble_eq_true rfl, Nat.le_of_ble_eq_true rfl⟩ (fun u ce q9 H locs eu hP hPo hS hce hcv hcl => ?_) (fun p1 H locs ep hP hPo hS => ?_)
  · obtain ⟨u, S2⟩ := u
    have hu : u = 2 := hcd u S2 eu.symm
    subst hu
    refine vx_catch (name := exN 2) (E := exN 2) hown [] _ _ (htab.trans rfl) (fun _ h9 => nomatch h9) rfl (by decide) (hts (.classLink RL 28 "java/lang/IndexOutOfBoundsException") (by decide +kernel)) (xB_vm (Vm.Alike.refl s.vm) hexc.2.2.2 (.castable (exN 2) (exN 2)) (by decide +kernel)) hce hcv hcl ?_
    refine lv_astore_n (lv' := [(3, .ref q9), (0, .ref (a 0)), (1, .int x1), (2, .ref o)]) hx hb dL_energyOf_12 rfl hl (by decide) rfl (fun ls hl => ?_)
    refine lv_iconst (v := 1) hx hb dL_energyOf_13 (by decide) ?_
    exact hRet (S := S2) hx hb hr hlocks hP hPo hS (by rw [← eu]; rfl) dL_energyOf_14
  · refine lv_i2l hx hb dL_energyOf_7 rfl ?_
    refine hst0 hao hx hb hK ha hP hPo hS dL_energyOf_8 (fun H locs hP hPo hS => ?_)
    refine lv_goto (tgt := 15) hx hb dL_energyOf_9 (by decide) ?_
    refine lv_iconst (v := 0) hx hb dL_energyOf_15 (by decide) ?_
    exact hRet (S := p1.2) hx hb hr hlocks hP hPo hS (by rw [← ep]; rfl) dL_energyOf_16
set_option maxHeartbeats 4000000 in
set_option maxRecDepth 100000 in
theorem c_L_darkMinutes (l : Launch) (G : WG) (a : Nat → Nat) (ha : wInj 20 a) (o : Nat) (hao : ∀ k, k < 20 → o ≠ a k) (hst : l.stackTraces = false) (x1 : Int32) (S : CS) (hc3 : ∃ N, N ≤ 10 ∧ S.1 3 = nI N) (f : Nat → Int64) (hcd : ∀ u S2, (f_X3_darkMinutes x1 S) = Sum.inr (u, S2) → u = 2) (sz : Nat) : hMi l yL_darkMinutes wsL_darkMinutes ({ frames := 8, cells := 1, slots := 6, locals := 132 }) 1 6 G a o [.ref (a 0), .int x1, .ref o] S f sz (fun u => if u = 2 then 1 else 0) (f_X3_darkMinutes x1 S) := by
  unfold hMi
  refine va_MetW (cc := cL_darkMinutes) (maxL := 4) (ret := (some .int)) (hh := [(0, 9, 12, 28)]) (by decide) rfl ?_
  intro p e s m args below meth c s₁ B hml hv
  obtain ⟨rfl, rfl, ⟨hP, hPo⟩, hK, hexc, hn10, hn02⟩ := hv
  have hx := B.exec
  have hb := B.bytes
  have hr := B.returns
  have hts := atoms_spec (ws := wsL_darkMinutes) B.pre
  have hown : s.vm.findClass RL = some m.cls := findClass_of_methodNamed B.named
  have hlocks := B.notSynchronized
  have htab : c.exceptionTable.toList = tableOf [(0, 9, 12, 28)] := vx_table (x := yL_darkMinutes) B (hts _ List.mem_cons_self)
  have hl := lv_entry ([.ref (a 0), .int x1, .ref o]) (n := 4) (Nat.le_of_ble_eq_true rfl)
  rw [lg_entry_eq]
  generalize (lg_sl ([.ref (a 0), .int x1, .ref o] : List Value) ++ List.replicate (4 - (lg_sl ([.ref (a 0), .int x1, .ref o] : List Value)).length) Slot.unset).toArray = ls at hl ⊢
  have hl : lv_has ls 4 [(0, .ref (a 0)), (1, .int x1), (2, .ref o)] := hl
  generalize hFe : (f_X3_darkMinutes x1 S) = F at hcd ⊢
  show W p l e ({ frames := 8, cells := 1, slots := 6, locals := 132 } : Room) s m ([.ref (a 0), .int x1, .ref o] : List Value).toArray below meth c s.heap [] 0 0 (hQ below 1 6 G a o f (fun u => if u = 2 then 1 else 0) F ([.ref (a 0), .int x1, .ref o] : List Value).toArray s) (F0 m 0 ls [])
  refine lv_aload_n hx hb dL_darkMinutes_0 rfl (lv_at hl 2 rfl) ?_
  refine lv_iconst (v := 0) hx hb dL_darkMinutes_1 (by decide) ?_
  refine lv_aload_n hx hb dL_darkMinutes_2 rfl (lv_at hl 0 rfl) ?_
  refine lv_iload_n hx hb dL_darkMinutes_3 rfl (lv_at hl 1 rfl) ?_
  have hM := (c_X3_darkMinutes l G a ha hst x1 S hc3 s.heap.size)
  rw [hFe] at hM
  refine gxcH (As := [.int x1]) (rest := [.int 0, .ref o]) hao hexc ⟨hx, hb, hml, hown, hts⟩ hK hP hPo hM (cwV 1 hts gL_darkMinutes_X3_darkMinutes rfl rfl rfl (by decide +kernel) ⟨Nat.le_of_ble_eq_true rfl, Nat.le_of_ble_eq_true rfl⟩) rfl hl.1 rfl (Nat.le_of_ble_eq_true rfl) dL_darkMinutes_4 ⟨Nat.le_of_ble_eq_true rfl, Nat.le_of_ble_eq_true rfl⟩ (fun u ce q9 H locs eu hP hPo hS hce hcv hcl => ?_) (fun p1 H locs ep hP hPo hS => ?_)
  · obtain ⟨u, S2⟩ := u
    have hu : u = 2 := hcd u S2 eu.symm
    subst hu
    refine vx_catch (name := exN 2) (E := exN 2) hown [] _ _ (htab.trans rfl) (fun _ h9 => nomatch h9) rfl (by decide) (hts (.classLink RL 28 "java/lang/IndexOutOfBoundsException") (by decide +kernel)) (xB_vm (Vm.Alike.refl s.vm) hexc.2.2.2 (.castable (exN 2) (exN 2)) (by decide +kernel)) hce hcv hcl ?_
    refine lv_astore_n (lv' := [(3, .ref q9), (0, .ref (a 0)), (1, .int x1), (2, .ref o)]) hx hb dL_darkMinutes_12 rfl hl (by decide) rfl (fun ls hl => ?_)
    refine lv_iconst (v := 1) hx hb dL_darkMinutes_13 (by decide) ?_
    exact hRet (S := S2) hx hb hr hlocks hP hPo hS (by rw [← eu]; rfl) dL_darkMinutes_14
  · refine lv_i2l hx hb dL_darkMinutes_7 rfl ?_
    refine hst0 hao hx hb hK ha hP hPo hS dL_darkMinutes_8 (fun H locs hP hPo hS => ?_)
    refine lv_goto (tgt := 15) hx hb dL_darkMinutes_9 (by decide) ?_
    refine lv_iconst (v := 0) hx hb dL_darkMinutes_15 (by decide) ?_
    exact hRet (S := p1.2) hx hb hr hlocks hP hPo hS (by rw [← ep]; rfl) dL_darkMinutes_16
set_option maxHeartbeats 4000000 in
set_option maxRecDepth 100000 in
theorem c_L_failedStarts (l : Launch) (G : WG) (a : Nat → Nat) (ha : wInj 20 a) (o : Nat) (hao : ∀ k, k < 20 → o ≠ a k) (hst : l.stackTraces = false) (x1 : Int32) (S : CS) (hc3 : ∃ N, N ≤ 3 ∧ S.1 5 = nI N) (f : Nat → Int64) (hcd : ∀ u S2, (f_X3_failedStarts x1 S) = Sum.inr (u, S2) → u = 2) (sz : Nat) : hMi l yL_failedStarts wsL_failedStarts ({ frames := 8, cells := 1, slots := 6, locals := 132 }) 1 6 G a o [.ref (a 0), .int x1, .ref o] S f sz (fun u => if u = 2 then 1 else 0) (f_X3_failedStarts x1 S) := by
  unfold hMi
  refine va_MetW (cc := cL_failedStarts) (maxL := 4) (ret := (some .int)) (hh := [(0, 9, 12, 28)]) (by decide) rfl ?_
  intro p e s m args below meth c s₁ B hml hv
  obtain ⟨rfl, rfl, ⟨hP, hPo⟩, hK, hexc, hn10, hn02⟩ := hv
  have hx := B.exec
  have hb := B.bytes
  have hr := B.returns
  have hts := atoms_spec (ws := wsL_failedStarts) B.pre
  have hown : s.vm.findClass RL = some m.cls := findClass_of_methodNamed B.named
  have hlocks := B.notSynchronized
  have htab : c.exceptionTable.toList = tableOf [(0, 9, 12, 28)] := vx_table (x := yL_failedStarts) B (hts _ List.mem_cons_self)
  have hl := lv_entry ([.ref (a 0), .int x1, .ref o]) (n := 4) (Nat.le_of_ble_eq_true rfl)
  rw [lg_entry_eq]
  generalize (lg_sl ([.ref (a 0), .int x1, .ref o] : List Value) ++ List.replicate (4 - (lg_sl ([.ref (a 0), .int x1, .ref o] : List Value)).length) Slot.unset).toArray = ls at hl ⊢
  have hl : lv_has ls 4 [(0, .ref (a 0)), (1, .int x1), (2, .ref o)] := hl
  generalize hFe : (f_X3_failedStarts x1 S) = F at hcd ⊢
  show W p l e ({ frames := 8, cells := 1, slots := 6, locals := 132 } : Room) s m ([.ref (a 0), .int x1, .ref o] : List Value).toArray below meth c s.heap [] 0 0 (hQ below 1 6 G a o f (fun u => if u = 2 then 1 else 0) F ([.ref (a 0), .int x1, .ref o] : List Value).toArray s) (F0 m 0 ls [])
  refine lv_aload_n hx hb dL_failedStarts_0 rfl (lv_at hl 2 rfl) ?_
  refine lv_iconst (v := 0) hx hb dL_failedStarts_1 (by decide) ?_
  refine lv_aload_n hx hb dL_failedStarts_2 rfl (lv_at hl 0 rfl) ?_
  refine lv_iload_n hx hb dL_failedStarts_3 rfl (lv_at hl 1 rfl) ?_
  have hM := (c_X3_failedStarts l G a ha hst x1 S hc3 s.heap.size)
  rw [hFe] at hM
  refine gxcH (As := [.int x1]) (rest := [.int 0, .ref o]) hao hexc ⟨hx, hb, hml, hown, hts⟩ hK hP hPo hM (cwV 1 hts gL_failedStarts_X3_failedStarts rfl rfl rfl (by decide +kernel) ⟨Nat.le_of_ble_eq_true rfl, Nat.le_of_ble_eq_true rfl⟩) rfl hl.1 rfl (Nat.le_of_ble_eq_true rfl) dL_failedStarts_4 ⟨Nat.le_of_ble_eq_true rfl, Nat.le_of_ble_eq_true rfl⟩ (fun u ce q9 H locs eu hP hPo hS hce hcv hcl => ?_) (fun p1 H locs ep hP hPo hS => ?_)
  · obtain ⟨u, S2⟩ := u
    have hu : u = 2 := hcd u S2 eu.symm
    subst hu
    refine vx_catch (name := exN 2) (E := exN 2) hown [] _ _ (htab.trans rfl) (fun _ h9 => nomatch h9) rfl (by decide) (hts (.classLink RL 28 "java/lang/IndexOutOfBoundsException") (by decide +kernel)) (xB_vm (Vm.Alike.refl s.vm) hexc.2.2.2 (.castable (exN 2) (exN 2)) (by decide +kernel)) hce hcv hcl ?_
    refine lv_astore_n (lv' := [(3, .ref q9), (0, .ref (a 0)), (1, .int x1), (2, .ref o)]) hx hb dL_failedStarts_12 rfl hl (by decide) rfl (fun ls hl => ?_)
    refine lv_iconst (v := 1) hx hb dL_failedStarts_13 (by decide) ?_
    exact hRet (S := S2) hx hb hr hlocks hP hPo hS (by rw [← eu]; rfl) dL_failedStarts_14
  · refine lv_i2l hx hb dL_failedStarts_7 rfl ?_
    refine hst0 hao hx hb hK ha hP hPo hS dL_failedStarts_8 (fun H locs hP hPo hS => ?_)
    refine lv_goto (tgt := 15) hx hb dL_failedStarts_9 (by decide) ?_
    refine lv_iconst (v := 0) hx hb dL_failedStarts_15 (by decide) ?_
    exact hRet (S := p1.2) hx hb hr hlocks hP hPo hS (by rw [← ep]; rfl) dL_failedStarts_16
set_option maxHeartbeats 4000000 in
set_option maxRecDepth 100000 in
theorem c_L_tests (l : Launch) (G : WG) (a : Nat → Nat) (ha : wInj 20 a) (o : Nat) (hao : ∀ k, k < 20 → o ≠ a k) (hst : l.stackTraces = false) (x1 : Int32) (S : CS) (hc3 : ∃ N, N ≤ 3 ∧ S.1 5 = nI N) (f : Nat → Int64) (hcd : ∀ u S2, (f_X3_tests x1 S) = Sum.inr (u, S2) → u = 2) (sz : Nat) : hMi l yL_tests wsL_tests ({ frames := 8, cells := 1, slots := 6, locals := 133 }) 1 6 G a o [.ref (a 0), .int x1, .ref o] S f sz (fun u => if u = 2 then 1 else 0) (f_X3_tests x1 S) := by
  unfold hMi
  refine va_MetW (cc := cL_tests) (maxL := 4) (ret := (some .int)) (hh := [(0, 9, 12, 28)]) (by decide) rfl ?_
  intro p e s m args below meth c s₁ B hml hv
  obtain ⟨rfl, rfl, ⟨hP, hPo⟩, hK, hexc, hn10, hn02⟩ := hv
  have hx := B.exec
  have hb := B.bytes
  have hr := B.returns
  have hts := atoms_spec (ws := wsL_tests) B.pre
  have hown : s.vm.findClass RL = some m.cls := findClass_of_methodNamed B.named
  have hlocks := B.notSynchronized
  have htab : c.exceptionTable.toList = tableOf [(0, 9, 12, 28)] := vx_table (x := yL_tests) B (hts _ List.mem_cons_self)
  have hl := lv_entry ([.ref (a 0), .int x1, .ref o]) (n := 4) (Nat.le_of_ble_eq_true rfl)
  rw [lg_entry_eq]
  generalize (lg_sl ([.ref (a 0), .int x1, .ref o] : List Value) ++ List.replicate (4 - (lg_sl ([.ref (a 0), .int x1, .ref o] : List Value)).length) Slot.unset).toArray = ls at hl ⊢
  have hl : lv_has ls 4 [(0, .ref (a 0)), (1, .int x1), (2, .ref o)] := hl
  generalize hFe : (f_X3_tests x1 S) = F at hcd ⊢
  show W p l e ({ frames := 8, cells := 1, slots := 6, locals := 133 } : Room) s m ([.ref (a 0), .int x1, .ref o] : List Value).toArray below meth c s.heap [] 0 0 (hQ below 1 6 G a o f (fun u => if u = 2 then 1 else 0) F ([.ref (a 0), .int x1, .ref o] : List Value).toArray s) (F0 m 0 ls [])
  refine lv_aload_n hx hb dL_tests_0 rfl (lv_at hl 2 rfl) ?_
  refine lv_iconst (v := 0) hx hb dL_tests_1 (by decide) ?_
  refine lv_aload_n hx hb dL_tests_2 rfl (lv_at hl 0 rfl) ?_
  refine lv_iload_n hx hb dL_tests_3 rfl (lv_at hl 1 rfl) ?_
  have hM := (c_X3_tests l G a ha hst x1 S hc3 s.heap.size)
  rw [hFe] at hM
  refine gxcH (As := [.int x1]) (rest := [.int 0, .ref o]) hao hexc ⟨hx, hb, hml, hown, hts⟩ hK hP hPo hM (cwV 1 hts gL_tests_X3_tests rfl rfl rfl (by decide +kernel) ⟨Nat.le_of_ble_eq_true rfl, Nat.le_of_ble_eq_true rfl⟩) rfl hl.1 rfl (Nat.le_of_ble_eq_true rfl) dL_tests_4 ⟨Nat.le_of_ble_eq_true rfl, Nat.le_of_ble_eq_true rfl⟩ (fun u ce q9 H locs eu hP hPo hS hce hcv hcl => ?_) (fun p1 H locs ep hP hPo hS => ?_)
  · obtain ⟨u, S2⟩ := u
    have hu : u = 2 := hcd u S2 eu.symm
    subst hu
    refine vx_catch (name := exN 2) (E := exN 2) hown [] _ _ (htab.trans rfl) (fun _ h9 => nomatch h9) rfl (by decide) (hts (.classLink RL 28 "java/lang/IndexOutOfBoundsException") (by decide +kernel)) (xB_vm (Vm.Alike.refl s.vm) hexc.2.2.2 (.castable (exN 2) (exN 2)) (by decide +kernel)) hce hcv hcl ?_
    refine lv_astore_n (lv' := [(3, .ref q9), (0, .ref (a 0)), (1, .int x1), (2, .ref o)]) hx hb dL_tests_12 rfl hl (by decide) rfl (fun ls hl => ?_)
    refine lv_iconst (v := 1) hx hb dL_tests_13 (by decide) ?_
    exact hRet (S := S2) hx hb hr hlocks hP hPo hS (by rw [← eu]; rfl) dL_tests_14
  · refine lv_i2l hx hb dL_tests_7 rfl ?_
    refine hst0 hao hx hb hK ha hP hPo hS dL_tests_8 (fun H locs hP hPo hS => ?_)
    refine lv_goto (tgt := 15) hx hb dL_tests_9 (by decide) ?_
    refine lv_iconst (v := 0) hx hb dL_tests_15 (by decide) ?_
    exact hRet (S := p1.2) hx hb hr hlocks hP hPo hS (by rw [← ep]; rfl) dL_tests_16
