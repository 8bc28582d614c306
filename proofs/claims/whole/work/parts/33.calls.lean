/-! ===== every call of the class beside the model's ===== -/
section AG
variable {n : Nat × Nat × Nat} {d : Nat → Int32} {S : CS} {M : MS}
def dd : Nat → Int32 := d01 0
def Ag (n2 : Nat × Nat × Nat) (r : Nat → Int32) (cd : Nat → Prop) (F : (Int32 × CS) ⊕ (Nat × CS)) (b : Int32) (M2 : MS) : Prop :=
  (∃ v S2, F = Sum.inl (v, S2) ∧ M2.1 0 = 0 ∧ v = b ∧ Iv n2 dd S2 M2) ∨ (∃ u S2, F = Sum.inr (u, S2) ∧ cd u ∧ M2.1 0 = r u ∧ r u ≠ 0 ∧ Iv n2 dd S2 M2)
theorem Ag.cd {n2 : Nat × Nat × Nat} {r : Nat → Int32} {cd : Nat → Prop} {F : (Int32 × CS) ⊕ (Nat × CS)} {b : Int32} {M2 : MS} (h : Ag n2 r cd F b M2) : ∀ u S2, F = Sum.inr (u, S2) → cd u := by
  intro u S2 e
  rcases h with ⟨v, S3, h1, -⟩ | ⟨u3, S3, h1, h2, -⟩
  · rw [h1] at e; cases e
  · rw [h1] at e
    have := Sum.inr.inj e
    rw [← (Prod.mk.inj this).1]
    exact h2
/-- what the law compares -/
theorem Ag.law {n2 : Nat × Nat × Nat} {r : Nat → Int32} {cd : Nat → Prop} {F : (Int32 × CS) ⊕ (Nat × CS)} {b : Int32} {M2 : MS} (h : Ag n2 r cd F b M2) (f : Nat → Int64) : M2.1 0 = (hR r F f).1 ∧ ((hR r F f).1 = 0 → (hR r F f).2.2 0 = b.toInt64) ∧ Iv n2 dd (hR r F f).2.1 M2 := by
  rcases h with ⟨v, S3, h1, h2, h3, h4⟩ | ⟨u3, S3, h1, h2, h3, h5, h4⟩
  · rw [h1]
    exact ⟨h2, fun _ => by rw [← h3]; simp [hR, vp_updL], h4⟩
  · rw [h1]
    exact ⟨h3, fun z => absurd z h5, h4⟩
theorem isO_i {x lo hi : Int32} (c : lo ≤ x ∧ x ≤ hi) (S : CS) : f_X3_isOutside x lo hi S = (0, S) := by
  rw [isO_eq, if_neg (fun z => by rw [i_le, i_le] at c; rw [i_lt, i_lt] at z; omega)]
theorem isO_o {x lo hi : Int32} (c : ¬ (lo ≤ x ∧ x ≤ hi)) (S : CS) : f_X3_isOutside x lo hi S = (1, S) := by
  rw [isO_eq, if_pos (by rw [i_le, i_le] at c; rw [i_lt, i_lt]; omega)]
theorem in_i {x lo hi : Int32} (c : lo ≤ x ∧ x ≤ hi) (M : MS) : f_X4_in n x lo hi M = (1, M) := by rw [f_in_eq, if_pos c]
theorem in_o {x lo hi : Int32} (c : ¬ (lo ≤ x ∧ x ≤ hi)) (M : MS) : f_X4_in n x lo hi M = (0, M) := by rw [f_in_eq, if_neg c]
theorem ix_c {x : Int32} {N : Nat} (hN : N ≤ 10) : (0 ≤ x ∧ x ≤ nI N - 1) ↔ (¬ x < 0 ∧ x < nI N) := by
  have e : (nI N - 1).toInt = (N : Int) - 1 := by rw [i_sub (by rw [nI_toInt (by omega)]; omega) (by rw [i_1]; omega), nI_toInt (by omega), i_1]
  rw [i_le, i_le, i_lt, i_lt, e, nI_toInt (by omega), i_0]
  omega
theorem ix_j {x : Int32} {N : Nat} (hN : N ≤ 10) (c : 0 ≤ x ∧ x ≤ nI N - 1) : x.toNatClampNeg < N := vp_lt (vp_of_le (by omega) c.1 c.2)
theorem fLd (h : Iv n d S M) (x : Int32) : f_X3_findLoad x S = if 0 ≤ x ∧ x ≤ nI n.1 - 1 then Sum.inl (x.toNatClampNeg, S) else Sum.inr (2, S) := by
  have e := ix_c (x := x) (N := n.1) h.ok.1
  unfold f_X3_findLoad f_X3_findLoad_b12
  rw [h.2.1.1]
  by_cases c : 0 ≤ x ∧ x ≤ nI n.1 - 1
  · rw [if_pos c, if_neg (e.mp c).1, if_pos (e.mp c).2]
  · rw [if_neg c]
    by_cases c1 : x < 0
    · rw [if_pos c1]
    · rw [if_neg c1, if_neg (fun z => c (e.mpr ⟨c1, z⟩))]
theorem fBt (h : Iv n d S M) (x : Int32) : f_X3_findBattery x S = if 0 ≤ x ∧ x ≤ nI n.2.1 - 1 then Sum.inl (x.toNatClampNeg, S) else Sum.inr (2, S) := by
  have hn := h.ok.2.1
  have e := ix_c (x := x) (N := n.2.1) (by omega)
  unfold f_X3_findBattery f_X3_findBattery_b12
  rw [h.2.1.2.1]
  by_cases c : 0 ≤ x ∧ x ≤ nI n.2.1 - 1
  · rw [if_pos c, if_neg (e.mp c).1, if_pos (e.mp c).2]
  · rw [if_neg c]
    by_cases c1 : x < 0
    · rw [if_pos c1]
    · rw [if_neg c1, if_neg (fun z => c (e.mpr ⟨c1, z⟩))]
theorem fGn (h : Iv n d S M) (x : Int32) : f_X3_findGenerator x S = if 0 ≤ x ∧ x ≤ nI n.2.2 - 1 then Sum.inl (x.toNatClampNeg, S) else Sum.inr (2, S) := by
  have hn := h.ok.2.2
  have e := ix_c (x := x) (N := n.2.2) (by omega)
  unfold f_X3_findGenerator f_X3_findGenerator_b12
  rw [h.2.1.2.2.1]
  by_cases c : 0 ≤ x ∧ x ≤ nI n.2.2 - 1
  · rw [if_pos c, if_neg (e.mp c).1, if_pos (e.mp c).2]
  · rw [if_neg c]
    by_cases c1 : x < 0
    · rw [if_pos c1]
    · rw [if_neg c1, if_neg (fun z => c (e.mpr ⟨c1, z⟩))]
theorem isLd (n : Nat × Nat × Nat) (x : Int32) (M : MS) : f_X4_isLoad n x M = (if 0 ≤ x ∧ x ≤ nI n.1 - 1 then 1 else 0, M) := by
  unfold f_X4_isLoad f_X4_isLoad_c8; rw [f_in_eq]
theorem isGn (n : Nat × Nat × Nat) (x : Int32) (M : MS) : f_X4_isGenerator n x M = (if 0 ≤ x ∧ x ≤ nI n.2.2 - 1 then 1 else 0, M) := by
  unfold f_X4_isGenerator f_X4_isGenerator_c8; rw [f_in_eq]
abbrev r21 : Nat → Int32 := fun u => if u = 2 then 1 else 0
abbrev r2102 : Nat → Int32 := fun u => if u = 2 then 1 else if u = 0 then 2 else 0
abbrev r01 : Nat → Int32 := fun u => if u = 0 then 1 else 0
abbrev r0112 : Nat → Int32 := fun u => if u = 0 then 1 else if u = 1 then 2 else 0
theorem th_s {v : Int32} : (muS M 0 v).1 0 = v := by rw [rdS, if_pos rfl]
theorem ag_no {r : Nat → Int32} {cd : Nat → Prop} {u : Nat} {b w : Int32} (h : Iv n dd S M) (hc : cd u) (hw : w = r u) (h0 : r u ≠ 0) : Ag n r cd (Sum.inr (u, S)) b (muS M 0 w) :=
  Or.inr ⟨u, S, rfl, hc, by rw [th_s, hw], h0, I_th h⟩
theorem ag_read {x : Int32} {row many : Nat} {v : Int32} (h : Iv n dd S M) (hv : (0 ≤ x ∧ x ≤ nI many - 1) → v = M.2 row x.toNatClampNeg) :
    Ag n r21 (fun u => u = 2) (if 0 ≤ x ∧ x ≤ nI many - 1 then Sum.inl (v, S) else Sum.inr (2, S)) (f_X4_told n row x many M).1 (f_X4_told n row x many M).2 := by
  rw [told_eq]
  by_cases c : 0 ≤ x ∧ x ≤ nI many - 1
  · rw [if_pos c, if_pos c]
    exact Or.inl ⟨v, S, rfl, th_s, hv c, I_th h⟩
  · rw [if_neg c, if_neg c]
    exact ag_no (M := muS M 0 0) (I_th h) rfl rfl (by decide)
theorem a_stateOf (h : Iv n dd S M) (x : Int32) : Ag n r21 (fun u => u = 2) (f_X3_stateOf x S) (f_X4_stateOf n x M).1 (f_X4_stateOf n x M).2 := by
  have e : f_X3_stateOf x S = if 0 ≤ x ∧ x ≤ nI n.1 - 1 then Sum.inl (M.2 3 x.toNatClampNeg, S) else Sum.inr (2, S) := by
    unfold f_X3_stateOf
    rw [fLd h]
    by_cases c : 0 ≤ x ∧ x ≤ nI n.1 - 1
    · rw [if_pos c, if_pos c]
      show Sum.inl (S.2.1 _ 3, S) = _
      rw [eL 3 (by omega) h]
    · rw [if_neg c, if_neg c]; rfl
  rw [e]
  exact ag_read h (fun _ => rfl)
theorem a_energyOf (h : Iv n dd S M) (x : Int32) : Ag n r21 (fun u => u = 2) (f_X3_energyOf x S) (f_X4_energyOf n x M).1 (f_X4_energyOf n x M).2 := by
  have e : f_X3_energyOf x S = if 0 ≤ x ∧ x ≤ nI n.1 - 1 then Sum.inl (M.2 4 x.toNatClampNeg, S) else Sum.inr (2, S) := by
    unfold f_X3_energyOf
    rw [fLd h]
    by_cases c : 0 ≤ x ∧ x ≤ nI n.1 - 1
    · rw [if_pos c, if_pos c]
      show Sum.inl (S.2.1 _ 4, S) = _
      rw [eL 4 (by omega) h]
    · rw [if_neg c, if_neg c]; rfl
  rw [e]
  exact ag_read h (fun _ => rfl)
theorem a_darkMinutes (h : Iv n dd S M) (x : Int32) : Ag n r21 (fun u => u = 2) (f_X3_darkMinutes x S) (f_X4_darkMinutes n x M).1 (f_X4_darkMinutes n x M).2 := by
  have e : f_X3_darkMinutes x S = if 0 ≤ x ∧ x ≤ nI n.1 - 1 then Sum.inl (M.2 5 x.toNatClampNeg, S) else Sum.inr (2, S) := by
    unfold f_X3_darkMinutes
    rw [fLd h]
    by_cases c : 0 ≤ x ∧ x ≤ nI n.1 - 1
    · rw [if_pos c, if_pos c]
      show Sum.inl (S.2.1 _ 5, S) = _
      rw [eL 5 (by omega) h]
    · rw [if_neg c, if_neg c]; rfl
  rw [e]
  exact ag_read h (fun _ => rfl)
theorem a_chargeOf (h : Iv n dd S M) (x : Int32) : Ag n r21 (fun u => u = 2) (f_X3_chargeOf x S) (f_X4_chargeOf n x M).1 (f_X4_chargeOf n x M).2 := by
  have e : f_X3_chargeOf x S = if 0 ≤ x ∧ x ≤ nI n.2.1 - 1 then Sum.inl (M.2 7 x.toNatClampNeg, S) else Sum.inr (2, S) := by
    unfold f_X3_chargeOf
    rw [fBt h]
    by_cases c : 0 ≤ x ∧ x ≤ nI n.2.1 - 1
    · rw [if_pos c, if_pos c]
      show Sum.inl (S.2.2.1 _ 1, S) = _
      rw [eB 1 7 (by omega) rfl h]
    · rw [if_neg c, if_neg c]; rfl
  rw [e]
  exact ag_read h (fun _ => rfl)
theorem a_capacityOf (h : Iv n dd S M) (x : Int32) : Ag n r21 (fun u => u = 2) (f_X3_capacityOf x S) (f_X4_capacityOf n x M).1 (f_X4_capacityOf n x M).2 := by
  have e : f_X3_capacityOf x S = if 0 ≤ x ∧ x ≤ nI n.2.1 - 1 then Sum.inl (M.2 6 x.toNatClampNeg, S) else Sum.inr (2, S) := by
    unfold f_X3_capacityOf
    rw [fBt h]
    by_cases c : 0 ≤ x ∧ x ≤ nI n.2.1 - 1
    · rw [if_pos c, if_pos c]
      show Sum.inl (S.2.2.1 _ 0, S) = _
      rw [eB 0 6 (by omega) rfl h]
    · rw [if_neg c, if_neg c]; rfl
  rw [e]
  exact ag_read h (fun _ => rfl)
theorem a_fuelOf (h : Iv n dd S M) (x : Int32) : Ag n r21 (fun u => u = 2) (f_X3_fuelOf x S) (f_X4_fuelOf n x M).1 (f_X4_fuelOf n x M).2 := by
  have e : f_X3_fuelOf x S = if 0 ≤ x ∧ x ≤ nI n.2.2 - 1 then Sum.inl (M.2 15 x.toNatClampNeg, S) else Sum.inr (2, S) := by
    unfold f_X3_fuelOf
    rw [fGn h]
    by_cases c : 0 ≤ x ∧ x ≤ nI n.2.2 - 1
    · rw [if_pos c, if_pos c]
      show Sum.inl (S.2.2.2 _ 3, S) = _
      rw [eG 3 15 (by omega) rfl h]
    · rw [if_neg c, if_neg c]; rfl
  rw [e]
  exact ag_read h (fun _ => rfl)
theorem a_failedStarts (h : Iv n dd S M) (x : Int32) : Ag n r21 (fun u => u = 2) (f_X3_failedStarts x S) (f_X4_failedStarts n x M).1 (f_X4_failedStarts n x M).2 := by
  have e : f_X3_failedStarts x S = if 0 ≤ x ∧ x ≤ nI n.2.2 - 1 then Sum.inl (M.2 24 x.toNatClampNeg, S) else Sum.inr (2, S) := by
    unfold f_X3_failedStarts
    rw [fGn h]
    by_cases c : 0 ≤ x ∧ x ≤ nI n.2.2 - 1
    · rw [if_pos c, if_pos c]
      show Sum.inl (S.2.2.2 _ 10, S) = _
      rw [eG 10 24 (by omega) rfl h]
    · rw [if_neg c, if_neg c]; rfl
  rw [e]
  exact ag_read h (fun _ => rfl)
theorem a_generatorState (h : Iv n dd S M) (x : Int32) : Ag n r21 (fun u => u = 2) (f_X3_generatorState x S) (f_X4_generatorState n x M).1 (f_X4_generatorState n x M).2 := by
  unfold f_X3_generatorState f_X4_generatorState
  rw [fGn h, told_eq]
  unfold f_X4_generatorState_c10 f_X4_generatorState_b37 f_X4_generatorState_b38
  by_cases c : 0 ≤ x ∧ x ≤ nI n.2.2 - 1
  · rw [if_pos c, if_pos c]
    show Ag n r21 _ (if S.2.2.2 x.toNatClampNeg 5 = 0 then Sum.inl (S.2.2.2 x.toNatClampNeg 4, S) else Sum.inl (S.2.2.2 x.toNatClampNeg 4 + 10, S)) _ _
    rw [if_pos (show (M.2 16 x.toNatClampNeg, muS M 0 0).2.1 0 = 0 from th_s), eG 4 16 (by omega) rfl h, eG 5 17 (by omega) rfl h]
    show Ag n r21 _ _ (if M.2 17 x.toNatClampNeg = 0 then (M.2 16 x.toNatClampNeg, muS M 0 0) else (M.2 16 x.toNatClampNeg + 10, muS M 0 0)).1 (if M.2 17 x.toNatClampNeg = 0 then (M.2 16 x.toNatClampNeg, muS M 0 0) else (M.2 16 x.toNatClampNeg + 10, muS M 0 0)).2
    by_cases c2 : M.2 17 x.toNatClampNeg = 0
    · rw [if_pos c2, if_pos c2]
      exact Or.inl ⟨_, S, rfl, th_s, rfl, I_th h⟩
    · rw [if_neg c2, if_neg c2]
      exact Or.inl ⟨_, S, rfl, th_s, rfl, I_th h⟩
  · rw [if_neg c, if_neg c, if_neg (show ¬ ((0 : Int32), muS (muS M 0 0) 0 1).2.1 0 = 0 from by rw [show ((0 : Int32), muS (muS M 0 0) 0 1).2.1 0 = 1 from th_s]; decide)]
    exact ag_no (M := muS M 0 0) (I_th h) rfl rfl (by decide)
theorem a_tests (h : Iv n dd S M) (x : Int32) : Ag n r21 (fun u => u = 2) (f_X3_tests x S) (f_X4_tests n x M).1 (f_X4_tests n x M).2 := by
  unfold f_X3_tests f_X4_tests
  rw [fGn h, isGn]
  unfold f_X4_tests_c3 f_X4_tests_b14 f_X4_tests_b45
  by_cases c : 0 ≤ x ∧ x ≤ nI n.2.2 - 1
  · rw [if_pos c, if_pos c, if_neg (show ¬ ((1 : Int32), M).1 = 0 from by show ¬ (1 : Int32) = 0; decide), if_pos (show (muS M 0 0).1 0 ≤ 0 from by rw [th_s]; decide)]
    show Ag n r21 _ (Sum.inl (1000 * S.2.2.2 x.toNatClampNeg 13 + S.2.2.2 x.toNatClampNeg 14, S)) (1000 * M.2 25 x.toNatClampNeg + M.2 26 x.toNatClampNeg) (muS M 0 0)
    rw [eG 13 25 (by omega) rfl h, eG 14 26 (by omega) rfl h]
    exact Or.inl ⟨_, S, rfl, th_s, rfl, I_th h⟩
  · rw [if_neg c, if_neg c, if_pos (show ((0 : Int32), M).1 = 0 from rfl), if_neg (show ¬ (muS M 0 1).1 0 ≤ 0 from by rw [th_s]; decide)]
    exact ag_no h rfl rfl (by decide)
theorem nI_m1 {j : Nat} (hj : j < 10) : ¬ nI j = -1 := by
  rw [i_eq, nI_toInt (by omega), show (-1 : Int32).toInt = -1 from by decide]
  omega
theorem nI_lt0 {j : Nat} (hj : j ≤ 10) : ¬ nI j < 0 := by
  rw [i_lt, nI_toInt (by omega), i_0]
  omega
theorem a_order {x x3 pl : Int32} (hx : x = 1 ∧ x3 = 0 ∨ x = 2 ∧ x3 = 1) (h : Iv n dd S M) : Ag n r21 (fun u => u = 2) (match f_X3_findInOrder x pl S with | Sum.inl p => Sum.inl (p.2.2.1 p.1 0, p.2) | Sum.inr p => Sum.inr p) (f_X4_placed n x pl x3 M).1 (f_X4_placed n x pl x3 M).2 := by
  have hn := h.ok.1
  have hx0 : x ≠ 0 := by rcases hx with ⟨e, -⟩ | ⟨e, -⟩ <;> rw [e] <;> decide
  have eO : f_X4_inOrder n x pl x3 M = (selM n M x pl, M) := by
    rcases hx with ⟨e1, e2⟩ | ⟨e1, e2⟩
    · subst e1; subst e2; exact inO_1 h pl
    · subst e1; subst e2; exact inO_2 h pl
  unfold f_X4_placed f_X4_placed_c8 f_X4_placed_b15 f_X4_placed_b29 f_X4_placed_b44
  rw [eO]
  rcases fIn_R h (pl := pl) hx0 with ⟨j, hj, e1, e2, e3⟩ | ⟨e3, e1⟩
  · have e4 : ¬ pl < 0 := by rw [← e2]; exact nI_lt0 (Nat.le_trans (ct_le _ _) hn)
    have e5 := nI_m1 (j := j) (by omega)
    rw [e3, if_neg e4]
    dsimp only
    rw [e1, if_neg e5, if_neg e5]
    exact Or.inl ⟨_, S, rfl, th_s, h.2.1.2.2.2 j (by omega), I_th h⟩
  · rw [e3]
    by_cases c : pl < 0
    · rw [if_pos c, if_pos rfl, if_pos rfl]
      exact ag_no h rfl rfl (by decide)
    · rw [if_neg c]
      dsimp only
      rw [e1, if_pos rfl, if_pos rfl]
      exact ag_no h rfl rfl (by decide)
theorem a_shedOrder (h : Iv n dd S M) (x : Int32) : Ag n r21 (fun u => u = 2) (f_X3_shedOrder x S) (f_X4_shedOrder n x M).1 (f_X4_shedOrder n x M).2 := by
  have := a_order (pl := x) (Or.inl ⟨rfl, rfl⟩) h
  unfold f_X3_shedOrder f_X4_shedOrder f_X4_shedOrder_c4
  generalize f_X3_findInOrder 1 x S = F at this ⊢
  cases F with
  | inl p => exact this
  | inr p => exact this
theorem a_returnOrder (h : Iv n dd S M) (x : Int32) : Ag n r21 (fun u => u = 2) (f_X3_returnOrder x S) (f_X4_returnOrder n x M).1 (f_X4_returnOrder n x M).2 := by
  have := a_order (pl := x) (Or.inr ⟨rfl, rfl⟩) h
  unfold f_X3_returnOrder f_X4_returnOrder f_X4_returnOrder_c4
  generalize f_X3_findInOrder 2 x S = F at this ⊢
  cases F with
  | inl p => exact this
  | inr p => exact this
end AG
