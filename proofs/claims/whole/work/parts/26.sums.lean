/-! ===== sums of the class, and the model's beside them ===== -/
theorem mnc (x y : Int32) : (if y < x then y else x) = mn x y := by
  unfold mn
  by_cases c1 : y < x
  · rw [if_pos c1, if_neg (by rw [i_lt] at c1 ⊢; omega)]
  · rw [if_neg c1]
    by_cases c2 : x < y
    · rw [if_pos c2]
    · rw [if_neg c2, i_eq]
      rw [i_lt] at c1 c2
      omega
theorem mn_le2 (x y : Int32) : (mn x y).toInt ≤ y.toInt := by rw [mn_toInt]; split <;> omega
theorem mn_le1 (x y : Int32) : (mn x y).toInt ≤ x.toInt := by rw [mn_toInt]; split <;> omega
theorem mn_0 {x y : Int32} (hx : 0 ≤ x.toInt) (hy : 0 ≤ y.toInt) : 0 ≤ (mn x y).toInt := by rw [mn_toInt]; split <;> omega
theorem mn_l {x y : Int32} (h : x.toInt ≤ y.toInt) : mn x y = x := by
  rw [i_eq, mn_toInt]
  split <;> omega
theorem mn_r {x y : Int32} (h : y.toInt ≤ x.toInt) : mn x y = y := by
  rw [i_eq, mn_toInt]
  split <;> omega
theorem mn_0l {y : Int32} (h : 0 ≤ y.toInt) : mn 0 y = 0 := mn_l (by rw [i_0]; exact h)
theorem mn_0r {x : Int32} (h : 0 ≤ x.toInt) : mn x 0 = 0 := mn_r (by rw [i_0]; exact h)
theorem i_le0 {x : Int32} : (0 : Int32) ≤ x ↔ 0 ≤ x.toInt := by rw [i_le, i_0]
theorem isSup_eq (k : Nat) (S : CS) : f_X1_isSupplying k S = (if S.2.2.2 k 4 = 2 ∧ S.2.2.2 k 5 = 0 then 1 else 0, S) := by
  unfold f_X1_isSupplying f_X1_isSupplying_b19 f_X1_isSupplying_b20
  by_cases c1 : S.2.2.2 k 4 = 2
  · by_cases c2 : S.2.2.2 k 5 = 0
    · rw [if_pos c1, if_pos c2, if_pos ⟨c1, c2⟩]
    · rw [if_pos c1, if_neg c2, if_neg (fun z => c2 z.2)]
  · rw [if_neg c1, if_neg (fun z => c1 z.1)]
def pl (S : CS) (k : Nat) : Int32 := if S.2.2.2 k 4 = 2 ∧ S.2.2.2 k 5 = 0 then S.2.2.2 k 0 - S.2.2.2 k 8 else 0
theorem pLeft_eq (k : Nat) (S : CS) : f_X1_powerLeft k S = (pl S k, S) := by
  unfold f_X1_powerLeft f_X1_powerLeft_c1 f_X1_powerLeft_b20 pl
  rw [isSup_eq]
  by_cases c : S.2.2.2 k 4 = 2 ∧ S.2.2.2 k 5 = 0
  · rw [if_pos c, if_pos c, if_neg (show ¬ ((1 : Int32), S).1 = 0 from by show ¬ (1 : Int32) = 0; decide)]
  · rw [if_neg c, if_neg c, if_pos (show ((0 : Int32), S).1 = 0 from rfl)]
theorem demand_h {S : CS} : ∀ (q k : Nat) (v : Int32), k ≤ 10 → 10 < k + q → v = sm (srd (fun i => S.2.1 i 3) (fun i => S.2.1 i 2)) k → f_X3_demand_h13 q k S v = (sm (srd (fun i => S.2.1 i 3) (fun i => S.2.1 i 2)) 10, S) := by
  intro q
  induction q with
  | zero => intro k v h1 h2; omega
  | succ q ih =>
    intro k v h1 h2 e
    rw [f_X3_demand_h13]
    by_cases hk : 10 ≤ k
    · have ek : k = 10 := by omega
      subst ek
      rw [if_pos hk, e]
    · rw [if_neg hk]
      by_cases c : S.2.1 k 3 = 1
      · rw [if_pos c]
        exact ih (k + 1) _ (by omega) (by omega) (by rw [e]; show _ = sm _ k + srd _ _ k; unfold srd; rw [if_pos c])
      · rw [if_neg c]
        exact ih (k + 1) _ (by omega) (by omega) (by rw [e]; show _ = sm _ k + srd _ _ k; unfold srd; rw [if_neg c, i_add0])
theorem demand_eq (S : CS) : f_X3_demand S = (sm (srd (fun i => S.2.1 i 3) (fun i => S.2.1 i 2)) 10, S) := demand_h 11 0 0 (by omega) (by omega) rfl
theorem sGP_h {S : CS} : ∀ (q k : Nat) (v : Int32), k ≤ 3 → 3 < k + q → v = sm (gvs (fun i => S.2.2.2 i 4) (fun i => S.2.2.2 i 5) (fun i => S.2.2.2 i 0)) k → f_X3_sumGeneratorPower_h13 q k S v = (sm (gvs (fun i => S.2.2.2 i 4) (fun i => S.2.2.2 i 5) (fun i => S.2.2.2 i 0)) 3, S) := by
  intro q
  induction q with
  | zero => intro k v h1 h2; omega
  | succ q ih =>
    intro k v h1 h2 e
    rw [f_X3_sumGeneratorPower_h13]
    by_cases hk : 3 ≤ k
    · have ek : k = 3 := by omega
      subst ek
      rw [if_pos hk, e]
    · rw [if_neg hk, isSup_eq]
      unfold f_X3_sumGeneratorPower_c27
      by_cases c : S.2.2.2 k 4 = 2 ∧ S.2.2.2 k 5 = 0
      · rw [if_pos c, if_neg (show ¬ ((1 : Int32), S).1 = 0 from by show ¬ (1 : Int32) = 0; decide)]
        exact ih (k + 1) _ (by omega) (by omega) (by rw [e]; show _ = sm _ k + gvs _ _ _ k; unfold gvs; rw [if_pos c])
      · rw [if_neg c, if_pos (show ((0 : Int32), S).1 = 0 from rfl)]
        exact ih (k + 1) _ (by omega) (by omega) (by rw [e]; show _ = sm _ k + gvs _ _ _ k; unfold gvs; rw [if_neg c, i_add0])
theorem sGP_eq (S : CS) : f_X3_sumGeneratorPower S = (sm (gvs (fun i => S.2.2.2 i 4) (fun i => S.2.2.2 i 5) (fun i => S.2.2.2 i 0)) 3, S) := sGP_h 4 0 0 (by omega) (by omega) rfl
theorem canGive_eq (k : Nat) (S : CS) : f_X0_canGive k S = (mn (S.2.2.1 k 2) (S.2.2.1 k 1), S) := by unfold f_X0_canGive; rw [mnc]
theorem canTake_eq (k : Nat) (S : CS) : f_X0_canTake k S = (mn (S.2.2.1 k 3) (S.2.2.1 k 0 - S.2.2.1 k 1), S) := by unfold f_X0_canTake; rw [mnc]
theorem sBP_h {S : CS} : ∀ (q k : Nat) (v : Int32), k ≤ 3 → 3 < k + q → v = sm (fun k => mn (S.2.2.1 k 2) (S.2.2.1 k 1)) k → f_X3_sumBatteryPower_h13 q k S v = (sm (fun k => mn (S.2.2.1 k 2) (S.2.2.1 k 1)) 3, S) := by
  intro q
  induction q with
  | zero => intro k v h1 h2; omega
  | succ q ih =>
    intro k v h1 h2 e
    rw [f_X3_sumBatteryPower_h13]
    by_cases hk : 3 ≤ k
    · have ek : k = 3 := by omega
      subst ek
      rw [if_pos hk, e]
    · rw [if_neg hk, canGive_eq]
      exact ih (k + 1) _ (by omega) (by omega) (by rw [e]; rfl)
theorem sBP_eq (S : CS) : f_X3_sumBatteryPower S = (sm (fun k => mn (S.2.2.1 k 2) (S.2.2.1 k 1)) 3, S) := sBP_h 4 0 0 (by omega) (by omega) rfl
section SR
variable {n : Nat × Nat × Nat} {d : Nat → Int32} {S : CS} {M : MS}
theorem st0 (h : Iv n d S M) {i : Nat} (hi : n.1 ≤ i) : M.2 3 i = 0 := h.2.2.1.1 i hi
theorem bt0 (h : Iv n d S M) {i : Nat} (hi : n.2.1 ≤ i) : M.2 6 i = 0 ∧ M.2 7 i = 0 ∧ M.2 10 i = 0 ∧ M.2 11 i = 0 := h.2.2.1.2.1 i hi
theorem gn0 (h : Iv n d S M) {i : Nat} (hi : n.2.2 ≤ i) : M.2 15 i = 0 ∧ M.2 16 i = 0 ∧ M.2 20 i = 0 := h.2.2.1.2.2 i hi
theorem Iv.bt (h : Iv n d S M) (i : Nat) : (0 ≤ (M.2 7 i).toInt ∧ (M.2 7 i).toInt ≤ (M.2 6 i).toInt ∧ (M.2 6 i).toInt ≤ 20000) ∧ (0 ≤ (M.2 8 i).toInt ∧ (M.2 8 i).toInt ≤ 500) ∧ (0 ≤ (M.2 9 i).toInt ∧ (M.2 9 i).toInt ≤ 500) := h.2.2.2.2.1 i
theorem Iv.bg (h : Iv n d S M) (i : Nat) : (0 ≤ (M.2 20 i).toInt ∧ (M.2 20 i).toInt ≤ (M.2 12 i).toInt ∧ (M.2 12 i).toInt ≤ 1000) ∧ (0 ≤ (M.2 15 i).toInt ∧ (M.2 15 i).toInt ≤ (M.2 14 i).toInt ∧ (M.2 14 i).toInt ≤ 1000) ∧ (M.2 16 i = 0 ∨ M.2 16 i = 1 ∨ M.2 16 i = 2) := h.2.2.2.2.2.1 i
theorem Iv.rp (h : Iv n d S M) : rpOk (M.2 1) (M.2 2) n.1 := h.2.2.2.1
theorem Iv.ok (h : Iv n d S M) : nOk n := h.2.2.2.2.2.2.2.2
theorem Iv.rr (h : Iv n d S M) : RR d S M := h.2.2.2.2.2.2.1
theorem demand_R (h : Iv n d S M) : f_X3_demand S = (sm (srd (M.2 3) (M.2 2)) n.1, S) := by
  rw [demand_eq]
  refine congrArg (fun z => (z, S)) (Eq.symm (sm_ext h.ok.1 (fun j hj => ?_) (fun j h1 h2 => ?_)))
  · show (if M.2 3 j = 1 then M.2 2 j else 0) = (if S.2.1 j 3 = 1 then S.2.1 j 2 else 0)
    rw [eL 3 (by omega) h, eL 2 (by omega) h]
  · show (if S.2.1 j 3 = 1 then S.2.1 j 2 else 0) = 0
    rw [eL 3 (by omega) h, st0 h h1, if_neg (by decide)]
theorem sGP_R (h : Iv n d S M) : f_X3_sumGeneratorPower S = (sm (gvs (M.2 16) (M.2 17) (M.2 12)) n.2.2, S) := by
  rw [sGP_eq]
  refine congrArg (fun z => (z, S)) (Eq.symm (sm_ext h.ok.2.2 (fun j hj => ?_) (fun j h1 h2 => ?_)))
  · show (if M.2 16 j = 2 ∧ M.2 17 j = 0 then M.2 12 j else 0) = (if S.2.2.2 j 4 = 2 ∧ S.2.2.2 j 5 = 0 then S.2.2.2 j 0 else 0)
    rw [eG 4 16 (by omega) rfl h, eG 5 17 (by omega) rfl h, eG 0 12 (by omega) rfl h]
  · show (if S.2.2.2 j 4 = 2 ∧ S.2.2.2 j 5 = 0 then S.2.2.2 j 0 else 0) = 0
    rw [eG 4 16 (by omega) rfl h, (gn0 h h1).2.1, if_neg (fun z => absurd z.1 (by decide))]
theorem sBP_R (h : Iv n d S M) : f_X3_sumBatteryPower S = (sm (fun k => mn (M.2 8 k) (M.2 7 k)) n.2.1, S) := by
  rw [sBP_eq]
  refine congrArg (fun z => (z, S)) (Eq.symm (sm_ext h.ok.2.1 (fun j hj => ?_) (fun j h1 h2 => ?_)))
  · show mn _ _ = mn _ _
    rw [eB 2 8 (by omega) rfl h, eB 1 7 (by omega) rfl h]
  · show mn _ _ = 0
    rw [eB 2 8 (by omega) rfl h, eB 1 7 (by omega) rfl h, (bt0 h h1).2.1]
    exact mn_0r (h.bt j).2.1.1
theorem pl_R (h : Iv n d S M) (k : Nat) : pl S k = if M.2 16 k = 2 ∧ M.2 17 k = 0 then M.2 12 k - M.2 20 k else 0 := by
  unfold pl
  rw [eG 4 16 (by omega) rfl h, eG 5 17 (by omega) rfl h, eG 0 12 (by omega) rfl h, eG 8 20 (by omega) rfl h]
theorem pl_0 (h : Iv n d S M) {k : Nat} (hk : n.2.2 ≤ k) : pl S k = 0 := by
  rw [pl_R h, (gn0 h hk).2.1, if_neg (fun z => absurd z.1 (by decide))]
theorem pl_bd (h : Iv n d S M) (k : Nat) : 0 ≤ (pl S k).toInt ∧ (pl S k).toInt ≤ 1000 := by
  rw [pl_R h]
  have := (h.bg k).1
  split
  · rw [i_sub (by omega) (by omega)]; omega
  · rw [i_0]; omega
end SR
/-! the class's order: keys -/
theorem isShed_2 (k j : Nat) (S : CS) : (f_X2_isShedAheadOf k j S).2 = S := by
  unfold f_X2_isShedAheadOf
  simp only [f_X2_isShedAheadOf_b27, f_X2_isShedAheadOf_b55, f_X2_isShedAheadOf_b72]
  repeat' split
  all_goals rfl
theorem isShed_1 {S : CS} {k j : Nat} (hk : k < 10) (hj : j < 10) (hN : ∀ i, i < 10 → S.2.1 i 0 = nI i) (bk : 0 ≤ (S.2.1 k 1).toInt ∧ (S.2.1 k 1).toInt ≤ 5 ∧ 0 ≤ (S.2.1 k 2).toInt ∧ (S.2.1 k 2).toInt ≤ 500) (bj : 0 ≤ (S.2.1 j 1).toInt ∧ (S.2.1 j 1).toInt ≤ 5 ∧ 0 ≤ (S.2.1 j 2).toInt ∧ (S.2.1 j 2).toInt ≤ 500) :
    f_X2_isShedAheadOf k j S = (if key (fun i => S.2.1 i 1) (fun i => S.2.1 i 2) j < key (fun i => S.2.1 i 1) (fun i => S.2.1 i 2) k then 1 else 0, S) := by
  have e1 := hN k hk
  have e2 := hN j hj
  have n1 := nI_toInt (n := k) (by omega)
  have n2 := nI_toInt (n := j) (by omega)
  unfold f_X2_isShedAheadOf
  simp only [f_X2_isShedAheadOf_b27, f_X2_isShedAheadOf_b55, f_X2_isShedAheadOf_b72, i_eq, i_le, e1, e2, n1, n2]
  unfold key
  dsimp only
  split
  · split
    · split
      · rw [if_neg (by omega)]
      · rw [if_pos (by omega)]
    · split
      · rw [if_neg (by omega)]
      · rw [if_pos (by omega)]
  · split
    · rw [if_neg (by omega)]
    · rw [if_pos (by omega)]
section OR
variable {n : Nat × Nat × Nat} {d : Nat → Int32} {S : CS} {M : MS}
theorem key_R (h : Iv n d S M) (k : Nat) : key (fun i => S.2.1 i 1) (fun i => S.2.1 i 2) k = key (M.2 1) (M.2 2) k := by
  unfold key
  dsimp only
  rw [eL 1 (by omega) h, eL 2 (by omega) h]
/-- of two loads of a state x: who goes ahead (1: shed first the greatest; else: return first the least) -/
theorem gAO_R (h : Iv n d S M) {k j : Nat} (hk : k < n.1) (hj : j < n.1) : f_X2_goesAheadOf k j S = (if (if M.2 3 k = 1 then key (M.2 1) (M.2 2) j < key (M.2 1) (M.2 2) k else key (M.2 1) (M.2 2) k < key (M.2 1) (M.2 2) j) then 1 else 0, S) := by
  have hn := h.ok.1
  have b : ∀ i, i < n.1 → 0 ≤ (S.2.1 i 1).toInt ∧ (S.2.1 i 1).toInt ≤ 5 ∧ 0 ≤ (S.2.1 i 2).toInt ∧ (S.2.1 i 2).toInt ≤ 500 := fun i hi => by
    rw [eL 1 (by omega) h, eL 2 (by omega) h]
    have := h.rp i hi
    omega
  have hN := h.2.1.2.2.2
  unfold f_X2_goesAheadOf f_X2_goesAheadOf_c18 f_X2_goesAheadOf_c10 f_X2_goesAheadOf_b21
  rw [isShed_1 (by omega) (by omega) hN (b k hk) (b j hj), isShed_1 (by omega) (by omega) hN (b j hj) (b k hk), eL 3 (by omega) h, key_R h, key_R h]
  by_cases c : M.2 3 k = 1
  · simp only [if_pos c]
  · simp only [if_neg c]
/-- k goes strictly ahead of j in the order of state x -/
def bef (M : MS) (x : Int32) (k j : Nat) : Prop := if x = 1 then key (M.2 1) (M.2 2) j < key (M.2 1) (M.2 2) k else key (M.2 1) (M.2 2) k < key (M.2 1) (M.2 2) j
theorem bef_asym {x : Int32} {k j : Nat} (h : bef M x k j) : ¬ bef M x j k := by
  unfold bef at *
  split at h
  · rename_i c; rw [if_pos c]; omega
  · rename_i c; rw [if_neg c]; omega
theorem bef_tr {x : Int32} {i k j : Nat} (h : bef M x i k) (h2 : bef M x k j) : bef M x i j := by
  unfold bef at *
  split at h
  · rename_i c; rw [if_pos c] at *; omega
  · rename_i c; rw [if_neg c] at *; omega
theorem bef_tot (h : Iv n d S M) {x : Int32} {k j : Nat} (hk : k < n.1) (hj : j < n.1) (hne : k ≠ j) : bef M x k j ∨ bef M x j k := by
  have hkey : key (M.2 1) (M.2 2) k ≠ key (M.2 1) (M.2 2) j := fun e => hne (key_inj h.rp h.ok.1 hk hj e)
  unfold bef
  split <;> omega
theorem gAO_b (h : Iv n d S M) {k j : Nat} {x : Int32} (hx : M.2 3 k = x) (hk : k < n.1) (hj : j < n.1) : ((f_X2_goesAheadOf k j S).1 = 0 ↔ ¬ bef M x k j) ∧ (f_X2_goesAheadOf k j S).2 = S := by
  rw [gAO_R h hk hj]
  refine ⟨?_, rfl⟩
  rw [hx]
  by_cases c : bef M x k j
  · have c9 : (if x = 1 then key (M.2 1) (M.2 2) j < key (M.2 1) (M.2 2) k else key (M.2 1) (M.2 2) k < key (M.2 1) (M.2 2) j) := c
    rw [if_pos c9]
    exact ⟨fun z => absurd (show (1 : Int32) = 0 from z) (by decide), fun z => absurd c z⟩
  · have c9 : ¬ (if x = 1 then key (M.2 1) (M.2 2) j < key (M.2 1) (M.2 2) k else key (M.2 1) (M.2 2) k < key (M.2 1) (M.2 2) j) := c
    rw [if_neg c9]
    exact ⟨fun _ => c, fun _ => rfl⟩
/-- the first of a state, in its order -/
def isF (n : Nat × Nat × Nat) (M : MS) (x : Int32) (m : Nat) : Option Nat → Prop
  | none => ∀ i, i < m → M.2 3 i ≠ x
  | some j => j < n.1 ∧ j < m ∧ M.2 3 j = x ∧ ∀ i, i < m → M.2 3 i = x → i ≠ j → bef M x j i
theorem fIO_h (h : Iv n d S M) {x : Int32} (hx : x ≠ 0) : ∀ (q k : Nat) (o : Option Nat), k ≤ 10 → 10 < k + q → isF n M x k o → ∃ o', isF n M x 10 o' ∧ f_X3_firstInOrder_h14 x q k S o = (o', S) := by
  intro q
  induction q with
  | zero => intro k o h1 h2; omega
  | succ q ih =>
    intro k o h1 h2 hF
    by_cases hk : 10 ≤ k
    · have ek : k = 10 := by omega
      subst ek
      refine ⟨o, hF, ?_⟩
      cases o with
      | none => rw [f_X3_firstInOrder_h14, if_pos hk]
      | some j => rw [f_X3_firstInOrder_h14, if_pos hk]
    · cases o with
      | none =>
        rw [f_X3_firstInOrder_h14, if_neg hk, eL 3 (by omega) h]
        by_cases c : M.2 3 k = x
        · rw [if_pos c]
          refine ih (k + 1) (some k) (by omega) (by omega) ⟨?_, by omega, c, fun i hi hxi hne => ?_⟩
          · rcases Nat.lt_or_ge k n.1 with z | z
            · exact z
            · exact absurd (by rw [← c, st0 h z]) hx
          · exact absurd hxi (hF i (by omega))
        · rw [if_neg c]
          refine ih (k + 1) none (by omega) (by omega) (fun i hi => ?_)
          rcases Nat.lt_or_ge i k with z | z
          · exact hF i z
          · have e : i = k := by omega
            rw [e]; exact c
      | some j =>
        obtain ⟨f1, f2, f3, f4⟩ := hF
        rw [f_X3_firstInOrder_h14, if_neg hk, eL 3 (by omega) h]
        by_cases c : M.2 3 k = x
        · rw [if_pos c]
          have hkn : k < n.1 := by
            rcases Nat.lt_or_ge k n.1 with z | z
            · exact z
            · exact absurd (by rw [← c, st0 h z]) hx
          obtain ⟨g1, g2⟩ := gAO_b h c hkn f1
          unfold f_X3_firstInOrder_c43
          rw [g2]
          by_cases c2 : bef M x k j
          · rw [if_neg (fun z => g1.mp z c2)]
            refine ih (k + 1) (some k) (by omega) (by omega) ⟨hkn, by omega, c, fun i hi hxi hne => ?_⟩
            rcases Classical.em (i = j) with e | e
            · rw [e]; exact c2
            · exact bef_tr c2 (f4 i (by omega) hxi e)
          · rw [if_pos (g1.mpr c2)]
            refine ih (k + 1) (some j) (by omega) (by omega) ⟨f1, by omega, f3, fun i hi hxi hne => ?_⟩
            rcases Nat.lt_or_ge i k with z | z
            · exact f4 i z hxi hne
            · have e : i = k := by omega
              rw [e]
              rcases bef_tot h (x := x) hkn f1 (by omega) with y | y
              · exact absurd y c2
              · exact y
        · rw [if_neg c]
          refine ih (k + 1) (some j) (by omega) (by omega) ⟨f1, by omega, f3, fun i hi hxi hne => ?_⟩
          rcases Nat.lt_or_ge i k with z | z
          · exact f4 i z hxi hne
          · have e : i = k := by omega
            rw [e] at hxi
            exact absurd hxi c
theorem fIO_R (h : Iv n d S M) {x : Int32} (hx : x ≠ 0) : ∃ o, isF n M x 10 o ∧ f_X3_firstInOrder x S = (o, S) :=
  fIO_h h hx 11 0 none (by omega) (by omega) (fun i hi => absurd hi (Nat.not_lt_zero i))
end OR
