/-! ===== calls that change something ===== -/
section ST
variable {n : Nat × Nat × Nat} {d : Nat → Int32} {S : CS} {M : MS}
theorem I_gx {i : Nat} {v : Int32} (k r : Nat) (hk : 9 ≤ k ∧ k ≤ 14) (hr : r = gr k) (hi : i < n.2.2) (h : Iv n d S M) : Iv n d (cuG S i k v) (muA M r i v) := by
  have g21 : 21 ≤ r := by
    rw [hr]
    unfold gr
    (repeat' split) <;> omega
  exact I_A h (sG (by omega) hr rfl h.1) h.2.1 (fun j => by show up2 S.2.2.2 i k v j 7 = _; rw [up2_n (Or.inr (by omega))]) ⟨by omega, by omega, fun _ => hi⟩ (by omega) (BT_A (by omega) h.2.2.2.2.1) (BG_A (by omega) h.2.2.2.2.2.1) (by omega)
theorem I_fu {i : Nat} {v : Int32} (hi : i < n.2.2) (h : Iv n d S M) (h0 : 0 ≤ v.toInt) (h1 : v.toInt ≤ (M.2 14 i).toInt) : Iv n d (cuG S i 3 v) (muA M 15 i v) := by
  refine I_A h (sG (by omega) rfl rfl h.1) h.2.1 (fun j => by show up2 S.2.2.2 i 3 v j 7 = _; rw [up2_n (Or.inr (by omega))]) ⟨by omega, by omega, fun _ => hi⟩ (by omega) (BT_A (by omega) h.2.2.2.2.1) (fun j => ?_) (by omega)
  have h5 := h.2.2.2.2.2.1 j
  simp only [rdA]
  by_cases c : j = i
  · subst c
    simp
    exact ⟨h5.1, ⟨h0, h1, h5.2.1.2.2⟩, h5.2.2⟩
  · simp [c]
    exact h5
theorem I_pw {i : Nat} {v : Int32} (hi : i < n.1) (h : Iv n d S M) (hv : 1 ≤ v.toInt ∧ v.toInt ≤ 500) : Iv n d (cuL S i 2 v) (muA M 2 i v) := by
  obtain ⟨h1, h2, h3, h4, h5, h6, h7, h8, h9⟩ := h
  refine ⟨sL (by omega) rfl rfl h1, RN_L (by omega) h2, ZZ_A ⟨fun _ => hi, by omega, by omega⟩ h3, fun k hk => ?_, BT_A (by omega) h5, BG_A (by omega) h6, RR_A (by omega) (fun _ => rfl) h7, h8, h9⟩
  have := h4 k hk
  rw [muA_ne (r' := 1) (by decide), rdA]
  by_cases c : k = i
  · rw [if_pos ⟨rfl, c⟩]
    exact ⟨this.1, hv⟩
  · rw [if_neg (fun z => c z.2)]
    exact this
theorem c1_i {x : Int32} {lo hi : Int32} {a b : Int} (ha : lo.toInt = a) (hb : hi.toInt = b) (c : lo ≤ x ∧ x ≤ hi) : a ≤ x.toInt ∧ x.toInt ≤ b := by
  rw [i_le, i_le, ha, hb] at c
  exact c
theorem a_switchLoad (h : Iv n dd S M) (x y : Int32) : Ag n r21 (fun u => u = 2) (f_X3_switchLoad x y S) (f_X4_switchLoad n x y M).1 (f_X4_switchLoad n x y M).2 := by
  have hn := h.ok.1
  unfold f_X3_switchLoad f_X4_switchLoad
  rw [fLd h, isLd]
  unfold f_X4_switchLoad_c3 f_X4_switchLoad_b14 f_X4_switchLoad_b58
  by_cases c : 0 ≤ x ∧ x ≤ nI n.1 - 1
  · have hj := ix_j hn c
    rw [if_pos c, if_pos c, if_neg (show ¬ ((1 : Int32), M).1 = 0 from by show ¬ (1 : Int32) = 0; decide), if_pos (show (muS M 0 0).1 0 ≤ 0 from by rw [th_s]; decide)]
    generalize x.toNatClampNeg = j at hj ⊢
    have h0 : Iv n dd S (muS M 0 0) := I_th h
    have e3 : S.2.1 j 3 = (muS M 0 0).2 3 j := eL 3 (by omega) h0 j
    have t0 : (muS M 0 0).1 0 = 0 := th_s
    show Ag n r21 _ (if y = 0 then Sum.inl ((cuL S j 3 0).2.1 j 3, cuL S j 3 0) else if S.2.1 j 3 = 0 then Sum.inl ((cuL S j 3 2).2.1 j 3, cuL S j 3 2) else Sum.inl (S.2.1 j 3, S)) _ _
    rw [e3]
    dsimp only
    generalize muS M 0 0 = M0 at h0 e3 t0 ⊢
    by_cases c1 : y = 0
    · rw [if_pos c1, if_pos c1]
      have h1 := I_ld 3 (by omega) hj h0 (v := 0)
      exact Or.inl ⟨_, _, rfl, t0, eL 3 (by omega) h1 j, h1⟩
    · rw [if_neg c1, if_neg c1]
      by_cases c2 : M0.2 3 j = 0
      · rw [if_pos c2, if_pos c2]
        have h1 := I_ld 3 (by omega) hj h0 (v := 2)
        exact Or.inl ⟨_, _, rfl, t0, eL 3 (by omega) h1 j, h1⟩
      · rw [if_neg c2, if_neg c2, muA_same rfl]
        exact Or.inl ⟨_, _, rfl, t0, rfl, h0⟩
  · rw [if_neg c, if_neg c, if_pos (show ((0 : Int32), M).1 = 0 from rfl), if_neg (show ¬ (muS M 0 1).1 0 ≤ 0 from by rw [th_s]; decide)]
    exact ag_no h rfl rfl (by decide)
theorem a_setPower (h : Iv n dd S M) (x y : Int32) : Ag n r2102 (fun u => u = 2 ∨ u = 0) (f_X3_setPower x y S) (f_X4_setPower n x y M).1 (f_X4_setPower n x y M).2 := by
  have hn := h.ok.1
  unfold f_X3_setPower f_X4_setPower
  rw [fLd h, isLd]
  unfold f_X4_setPower_c3 f_X4_setPower_c18 f_X4_setPower_b29
  by_cases c : 0 ≤ x ∧ x ≤ nI n.1 - 1
  · have hj := ix_j hn c
    rw [if_pos c, if_pos c, if_neg (show ¬ ((1 : Int32), M).1 = 0 from by show ¬ (1 : Int32) = 0; decide)]
    show Ag n r2102 _ (f_X3_setPower_c11 x y (x.toNatClampNeg, S) (f_X3_isOutside y 1 500 S)) _ _
    unfold f_X3_setPower_c11
    dsimp only
    by_cases c1 : 1 ≤ y ∧ y ≤ 500
    · rw [isO_i c1, in_i c1]
      dsimp only
      rw [if_pos rfl, if_neg (show ¬ (1 : Int32) = 0 from by decide), if_pos (show (muS M 0 0).1 0 ≤ 0 from by rw [th_s]; decide)]
      have h0 : Iv n dd S (muS M 0 0) := I_th h
      exact Or.inl ⟨_, _, rfl, th_s (M := M) (v := 0), eL 2 (by omega) h0 _, I_pw hj h0 (c1_i (by decide) (by decide) c1)⟩
    · rw [isO_o c1, in_o c1]
      dsimp only
      rw [if_neg (show ¬ (1 : Int32) = 0 from by decide), if_pos (show (0 : Int32) = 0 from rfl), if_neg (show ¬ (muS M 0 2).1 0 ≤ 0 from by rw [th_s]; decide)]
      exact ag_no h (Or.inr rfl) rfl (by decide)
  · rw [if_neg c, if_neg c, if_pos (show ((0 : Int32), M).1 = 0 from rfl), if_neg (show ¬ (muS M 0 1).1 0 ≤ 0 from by rw [th_s]; decide)]
    exact ag_no h (Or.inl rfl) rfl (by decide)
theorem a_refuel (h : Iv n dd S M) (x y : Int32) : Ag n r2102 (fun u => u = 2 ∨ u = 0) (f_X3_refuel x y S) (f_X4_refuel n x y M).1 (f_X4_refuel n x y M).2 := by
  have hn := h.ok.2.2
  unfold f_X3_refuel f_X4_refuel
  rw [fGn h, isGn]
  unfold f_X4_refuel_c3 f_X4_refuel_c18 f_X4_refuel_b29
  by_cases c : 0 ≤ x ∧ x ≤ nI n.2.2 - 1
  · have hj := ix_j (by omega) c
    rw [if_pos c, if_pos c, if_neg (show ¬ ((1 : Int32), M).1 = 0 from by show ¬ (1 : Int32) = 0; decide)]
    show Ag n r2102 _ (f_X3_refuel_c11 x y (x.toNatClampNeg, S) (f_X3_isOutside y 1 1000 S)) _ _
    unfold f_X3_refuel_c11
    dsimp only
    by_cases c1 : 1 ≤ y ∧ y ≤ 1000
    · rw [isO_i c1, in_i c1]
      dsimp only
      rw [if_pos rfl, if_neg (show ¬ (1 : Int32) = 0 from by decide), if_pos (show (muS M 0 0).1 0 ≤ 0 from by rw [th_s]; decide)]
      have h0 : Iv n dd S (muS M 0 0) := I_th h
      rw [mnc, eG 2 14 (by omega) rfl h, eG 3 15 (by omega) rfl h, lesser_mn]
      unfold f_X4_refuel_c55
      dsimp only
      rw [rdS2]
      have hy := c1_i (a := 1) (b := 1000) (by decide) (by decide) c1
      have hb := (h.bg x.toNatClampNeg).2.1
      have e1 : (M.2 14 x.toNatClampNeg - M.2 15 x.toNatClampNeg).toInt = (M.2 14 x.toNatClampNeg).toInt - (M.2 15 x.toNatClampNeg).toInt := i_sub (by omega) (by omega)
      have m0 := mn_0 (x := y) (y := M.2 14 x.toNatClampNeg - M.2 15 x.toNatClampNeg) (by omega) (by omega)
      have m2 := mn_le2 y (M.2 14 x.toNatClampNeg - M.2 15 x.toNatClampNeg)
      generalize mn y (M.2 14 x.toNatClampNeg - M.2 15 x.toNatClampNeg) = p at m0 m2 ⊢
      have e2 : (M.2 15 x.toNatClampNeg + p).toInt = (M.2 15 x.toNatClampNeg).toInt + p.toInt := i_add (by omega)
      exact Or.inl ⟨_, _, rfl, th_s (M := M) (v := 0), rfl, I_fu hj h0 (by omega) (by show _ ≤ (M.2 14 _).toInt; omega)⟩
    · rw [isO_o c1, in_o c1]
      dsimp only
      rw [if_neg (show ¬ (1 : Int32) = 0 from by decide), if_pos (show (0 : Int32) = 0 from rfl), if_neg (show ¬ (muS M 0 2).1 0 ≤ 0 from by rw [th_s]; decide)]
      exact ag_no h (Or.inr rfl) rfl (by decide)
  · rw [if_neg c, if_neg c, if_pos (show ((0 : Int32), M).1 = 0 from rfl), if_neg (show ¬ (muS M 0 1).1 0 ≤ 0 from by rw [th_s]; decide)]
    exact ag_no h (Or.inl rfl) rfl (by decide)
theorem a_setFailures (h : Iv n dd S M) (x y : Int32) : Ag n r2102 (fun u => u = 2 ∨ u = 0) (f_X3_setFailures x y S) (f_X4_setFailures n x y M).1 (f_X4_setFailures n x y M).2 := by
  have hn := h.ok.2.2
  unfold f_X3_setFailures f_X4_setFailures
  rw [fGn h, isGn]
  unfold f_X4_setFailures_c3 f_X4_setFailures_c16 f_X4_setFailures_b27
  by_cases c : 0 ≤ x ∧ x ≤ nI n.2.2 - 1
  · have hj := ix_j (by omega) c
    rw [if_pos c, if_pos c, if_neg (show ¬ ((1 : Int32), M).1 = 0 from by show ¬ (1 : Int32) = 0; decide)]
    show Ag n r2102 _ (f_X3_setFailures_c9 x y (x.toNatClampNeg, S) (f_X3_isOutside y 0 5 S)) _ _
    unfold f_X3_setFailures_c9
    dsimp only
    by_cases c1 : 0 ≤ y ∧ y ≤ 5
    · rw [isO_i c1, in_i c1]
      dsimp only
      rw [if_pos rfl, if_neg (show ¬ (1 : Int32) = 0 from by decide), if_pos (show (muS M 0 0).1 0 ≤ 0 from by rw [th_s]; decide)]
      have h0 : Iv n dd S (muS M 0 0) := I_th h
      exact Or.inl ⟨_, _, rfl, th_s (M := M) (v := 0), eG 9 21 (by omega) rfl h0 _, I_gx 9 21 (by omega) rfl hj h0⟩
    · rw [isO_o c1, in_o c1]
      dsimp only
      rw [if_neg (show ¬ (1 : Int32) = 0 from by decide), if_pos (show (0 : Int32) = 0 from rfl), if_neg (show ¬ (muS M 0 2).1 0 ≤ 0 from by rw [th_s]; decide)]
      exact ag_no h (Or.inr rfl) rfl (by decide)
  · rw [if_neg c, if_neg c, if_pos (show ((0 : Int32), M).1 = 0 from rfl), if_neg (show ¬ (muS M 0 1).1 0 ≤ 0 from by rw [th_s]; decide)]
    exact ag_no h (Or.inl rfl) rfl (by decide)
theorem a_setTests (h : Iv n dd S M) (x y z : Int32) : Ag n r2102 (fun u => u = 2 ∨ u = 0) (f_X3_setTests x y z S) (f_X4_setTests n x y z M).1 (f_X4_setTests n x y z M).2 := by
  have hn := h.ok.2.2
  unfold f_X3_setTests f_X4_setTests
  rw [fGn h, isGn]
  unfold f_X4_setTests_c3 f_X4_setTests_c18 f_X4_setTests_c28 f_X4_setTests_b38 f_X4_setTests_b39
  by_cases c : 0 ≤ x ∧ x ≤ nI n.2.2 - 1
  · have hj := ix_j (by omega) c
    rw [if_pos c, if_pos c, if_neg (show ¬ ((1 : Int32), M).1 = 0 from by show ¬ (1 : Int32) = 0; decide)]
    show Ag n r2102 _ (f_X3_setTests_c12 x y z (x.toNatClampNeg, S) (f_X3_isOutside y 0 10000 S)) _ _
    unfold f_X3_setTests_c12 f_X3_setTests_b28
    dsimp only
    by_cases c1 : 0 ≤ y ∧ y ≤ 10000
    · rw [isO_i c1, in_i c1]
      dsimp only
      rw [if_pos rfl, if_neg (show ¬ (1 : Int32) = 0 from by decide)]
      unfold f_X3_setTests_c22 f_X3_setTests_b28
      by_cases c2 : 1 ≤ z ∧ z ≤ 60
      · rw [isO_i c2, in_i c2]
        dsimp only
        rw [if_pos rfl, if_neg (show ¬ (1 : Int32) = 0 from by decide), if_pos (show (muS M 0 0).1 0 ≤ 0 from by rw [th_s]; decide)]
        have h0 : Iv n dd S (muS M 0 0) := I_th h
        exact Or.inl ⟨_, _, rfl, th_s (M := M) (v := 0), eG 11 22 (by omega) rfl h0 _, I_gx 12 23 (by omega) rfl hj (I_gx 11 22 (by omega) rfl hj h0)⟩
      · rw [isO_o c2, in_o c2]
        dsimp only
        rw [if_neg (show ¬ (1 : Int32) = 0 from by decide), if_pos (show (0 : Int32) = 0 from rfl), if_neg (show ¬ (muS M 0 2).1 0 ≤ 0 from by rw [th_s]; decide)]
        exact ag_no h (Or.inr rfl) rfl (by decide)
    · rw [isO_o c1, in_o c1]
      dsimp only
      rw [if_neg (show ¬ (1 : Int32) = 0 from by decide), if_pos (show (0 : Int32) = 0 from rfl), if_neg (show ¬ (muS M 0 2).1 0 ≤ 0 from by rw [th_s]; decide)]
      exact ag_no h (Or.inr rfl) rfl (by decide)
  · rw [if_neg c, if_neg c, if_pos (show ((0 : Int32), M).1 = 0 from rfl), if_neg (show ¬ (muS M 0 1).1 0 ≤ 0 from by rw [th_s]; decide)]
    exact ag_no h (Or.inl rfl) rfl (by decide)
theorem a_setTimes (h : Iv n dd S M) (x y : Int32) : Ag n r01 (fun u => u = 0) (f_X3_setTimes x y S) (f_X4_setTimes n x y M).1 (f_X4_setTimes n x y M).2 := by
  unfold f_X3_setTimes f_X4_setTimes f_X3_setTimes_c4 f_X3_setTimes_b20 f_X4_setTimes_c5 f_X4_setTimes_b25 f_X4_setTimes_b26
  by_cases c1 : 0 ≤ x ∧ x ≤ 30
  · rw [isO_i c1, in_i c1]
    dsimp only
    rw [if_pos rfl, if_neg (show ¬ (1 : Int32) = 0 from by decide)]
    unfold f_X3_setTimes_c14 f_X3_setTimes_b20 f_X4_setTimes_c15 f_X4_setTimes_b25 f_X4_setTimes_b26
    by_cases c2 : 1 ≤ y ∧ y ≤ 10
    · rw [isO_i c2, in_i c2]
      dsimp only
      rw [if_pos rfl, if_neg (show ¬ (1 : Int32) = 0 from by decide), if_pos (show (muS M 0 0).1 0 ≤ 0 from by rw [th_s]; decide)]
      have h0 : Iv n dd S (muS M 0 0) := I_th h
      exact Or.inl ⟨_, _, rfl, by rw [rdS, if_neg (by decide), rdS, if_neg (by decide), th_s], eS 9 4 (by omega) rfl h, I_sc 10 5 (by omega) rfl (I_sc 9 4 (by omega) rfl h0)⟩
    · rw [isO_o c2, in_o c2]
      dsimp only
      rw [if_neg (show ¬ (1 : Int32) = 0 from by decide), if_pos (show (0 : Int32) = 0 from rfl), if_neg (show ¬ (muS M 0 1).1 0 ≤ 0 from by rw [th_s]; decide)]
      exact ag_no h rfl rfl (by decide)
  · rw [isO_o c1, in_o c1]
    dsimp only
    rw [if_neg (show ¬ (1 : Int32) = 0 from by decide), if_pos (show (0 : Int32) = 0 from rfl), if_neg (show ¬ (muS M 0 1).1 0 ≤ 0 from by rw [th_s]; decide)]
    exact ag_no h rfl rfl (by decide)
theorem b_setMains (h : Iv n dd S M) {x : Int32} (hx : isB x) : (f_X3_setMains x S).1 = (f_X4_setMains n x M).1 ∧ Iv n dd (f_X3_setMains x S).2 (f_X4_setMains n x M).2 :=
  ⟨eS 6 2 (by omega) rfl h, I_mu hx (I_th h)⟩
theorem b_time (h : Iv n dd S M) : (f_X3_time S).1 = (f_X4_time n M).1 ∧ Iv n dd (f_X3_time S).2 (f_X4_time n M).2 := ⟨eS 7 1 (by omega) rfl h, I_th h⟩
theorem b_outage (h : Iv n dd S M) : (f_X3_outage S).1 = (f_X4_outage n M).1 ∧ Iv n dd (f_X3_outage S).2 (f_X4_outage n M).2 := ⟨eS 8 3 (by omega) rfl h, I_th h⟩
theorem b_fromMains (h : Iv n dd S M) : (f_X3_fromMains S).1 = (f_X4_fromMains n M).1 ∧ Iv n dd (f_X3_fromMains S).2 (f_X4_fromMains n M).2 := ⟨eS 12 36 (by omega) rfl h, I_th h⟩
theorem b_fromGenerators (h : Iv n dd S M) : (f_X3_fromGenerators S).1 = (f_X4_fromGenerators n M).1 ∧ Iv n dd (f_X3_fromGenerators S).2 (f_X4_fromGenerators n M).2 := ⟨eS 13 37 (by omega) rfl h, I_th h⟩
theorem b_fromBatteries (h : Iv n dd S M) : (f_X3_fromBatteries S).1 = (f_X4_fromBatteries n M).1 ∧ Iv n dd (f_X3_fromBatteries S).2 (f_X4_fromBatteries n M).2 := ⟨eS 14 38 (by omega) rfl h, I_th h⟩
theorem b_intoBatteries (h : Iv n dd S M) : (f_X3_intoBatteries S).1 = (f_X4_intoBatteries n M).1 ∧ Iv n dd (f_X3_intoBatteries S).2 (f_X4_intoBatteries n M).2 := ⟨eS 15 39 (by omega) rfl h, I_th h⟩
theorem b_demand (h : Iv n dd S M) : (f_X3_demand S).1 = (f_X4_demand n M).1 ∧ Iv n dd (f_X3_demand S).2 (f_X4_demand n M).2 := by
  unfold f_X4_demand f_X4_demand_c6
  rw [demand_R h, needed_eq]
  exact ⟨rfl, I_th h⟩
theorem b_batteryMinutes (h : Iv n dd S M) : (f_X3_batteryMinutes S).1 = (f_X4_batteryMinutes n M).1 ∧ Iv n dd (f_X3_batteryMinutes S).2 (f_X4_batteryMinutes n M).2 := bm_R h
end ST
