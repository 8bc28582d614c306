/-! ===== adding; passing ===== -/
section AD
variable {n : Nat × Nat × Nat} {d : Nat → Int32} {S : CS} {M : MS}
theorem I_addL {x y st : Int32} (h : Iv n d S M) (hk : n.1 < 10) (hx : 1 ≤ x.toInt ∧ x.toInt ≤ 5) (hy : 1 ≤ y.toInt ∧ y.toInt ≤ 500) :
    Iv (n.1 + 1, n.2.1, n.2.2) d (cuM (cuL (cuL (cuL S n.1 1 x) n.1 2 y) n.1 3 st) 3 (nI (n.1 + 1))) (muA (muA (muA M 1 n.1 x) 2 n.1 y) 3 n.1 st) := by
  obtain ⟨h1, h2, h3, h4, h5, h6, h7, h8, h9⟩ := h
  refine ⟨oM6 (by omega) (sL (by omega) rfl rfl (sL (by omega) rfl rfl (sL (by omega) rfl rfl h1))), ⟨?_, ?_, ?_, ?_⟩, ⟨?_, ?_, ?_⟩, ?_, BT_A (by omega) (BT_A (by omega) (BT_A (by omega) h5)), BG_A (by omega) (BG_A (by omega) (BG_A (by omega) h6)), ?_, h8, ⟨?_, h9.2⟩⟩
  · rw [rdM, if_pos rfl]
  · rw [rdM, if_neg (by omega)]; exact h2.2.1
  · rw [rdM, if_neg (by omega)]; exact h2.2.2.1
  · exact (RN_L (by omega) (RN_L (by omega) (RN_L (by omega) h2))).2.2.2
  · intro i hi
    have hi : n.1 + 1 ≤ i := hi
    rw [rdA, if_neg (by omega), muA_ne (by decide), muA_ne (by decide)]
    exact h3.1 i (by omega)
  · intro i hi
    rw [muA_ne (r' := 6) (by decide), muA_ne (r' := 6) (by decide), muA_ne (r' := 6) (by decide), muA_ne (r' := 7) (by decide), muA_ne (r' := 7) (by decide), muA_ne (r' := 7) (by decide), muA_ne (r' := 10) (by decide), muA_ne (r' := 10) (by decide), muA_ne (r' := 10) (by decide), muA_ne (r' := 11) (by decide), muA_ne (r' := 11) (by decide), muA_ne (r' := 11) (by decide)]
    exact h3.2.1 i hi
  · intro i hi
    rw [muA_ne (r' := 15) (by decide), muA_ne (r' := 15) (by decide), muA_ne (r' := 15) (by decide), muA_ne (r' := 16) (by decide), muA_ne (r' := 16) (by decide), muA_ne (r' := 16) (by decide), muA_ne (r' := 20) (by decide), muA_ne (r' := 20) (by decide), muA_ne (r' := 20) (by decide)]
    exact h3.2.2 i hi
  · intro k hk2
    have hk2 : k < n.1 + 1 := hk2
    rw [muA_ne (r' := 1) (by decide), muA_ne (r' := 1) (by decide), muA_ne (r' := 2) (by decide), rdA, rdA]
    by_cases c : k = n.1
    · rw [if_pos ⟨rfl, c⟩, if_pos ⟨rfl, c⟩]
      exact ⟨hx, hy⟩
    · rw [if_neg (fun z => c z.2), if_neg (fun z => c z.2), muA_ne (r' := 2) (by decide)]
      exact h4 k (by omega)
  · exact RR_A (by omega) (fun _ => rfl) (RR_A (by omega) (fun _ => rfl) (RR_A (by omega) (fun _ => rfl) h7))
  · show n.1 + 1 ≤ 10; omega
theorem I_addB {x y z : Int32} (h : Iv n d S M) (hk : n.2.1 < 3) (hx : 1 ≤ x.toInt ∧ x.toInt ≤ 20000) (hy : 1 ≤ y.toInt ∧ y.toInt ≤ 500) (hz : 1 ≤ z.toInt ∧ z.toInt ≤ 500) :
    Iv (n.1, n.2.1 + 1, n.2.2) d (cuM (cuB (cuB (cuB (cuB S n.2.1 0 x) n.2.1 1 x) n.2.1 2 y) n.2.1 3 z) 4 (nI (n.2.1 + 1))) (muA (muA (muA (muA M 6 n.2.1 x) 7 n.2.1 x) 8 n.2.1 y) 9 n.2.1 z) := by
  obtain ⟨h1, h2, h3, h4, h5, h6, h7, h8, h9⟩ := h
  refine ⟨oM6 (by omega) (sB (by omega) rfl rfl (sB (by omega) rfl rfl (sB (by omega) rfl rfl (sB (by omega) rfl rfl h1)))), ⟨?_, ?_, ?_, ?_⟩, ⟨?_, ?_, ?_⟩, ?_, ?_, BG_A (by omega) (BG_A (by omega) (BG_A (by omega) (BG_A (by omega) h6))), ?_, h8, ⟨h9.1, ?_, h9.2.2⟩⟩
  · rw [rdM, if_neg (by omega)]; exact h2.1
  · rw [rdM, if_pos rfl]
  · rw [rdM, if_neg (by omega)]; exact h2.2.2.1
  · exact h2.2.2.2
  · intro i hi
    rw [muA_ne (by decide), muA_ne (by decide), muA_ne (by decide), muA_ne (by decide)]
    exact h3.1 i hi
  · intro i hi
    have hi : n.2.1 + 1 ≤ i := hi
    have hz := h3.2.1 i (by omega)
    simp only [rdA]
    simp only [show ¬ (i = n.2.1) by omega, and_false, if_false]
    exact hz
  · intro i hi
    rw [muA_ne (r' := 15) (by decide), muA_ne (r' := 15) (by decide), muA_ne (r' := 15) (by decide), muA_ne (r' := 15) (by decide), muA_ne (r' := 16) (by decide), muA_ne (r' := 16) (by decide), muA_ne (r' := 16) (by decide), muA_ne (r' := 16) (by decide), muA_ne (r' := 20) (by decide), muA_ne (r' := 20) (by decide), muA_ne (r' := 20) (by decide), muA_ne (r' := 20) (by decide)]
    exact h3.2.2 i hi
  · exact rp_A (by omega) (rp_A (by omega) (rp_A (by omega) (rp_A (by omega) h4)))
  · intro i
    have hz5 := h5 i
    simp only [rdA]
    by_cases c : i = n.2.1
    · simp [c]
      omega
    · simp [c]
      exact hz5
  · exact RR_A (by omega) (fun _ => rfl) (RR_A (by omega) (fun _ => rfl) (RR_A (by omega) (fun _ => rfl) (RR_A (by omega) (fun _ => rfl) h7)))
  · show n.2.1 + 1 ≤ 3; omega
theorem I_addG {x y z : Int32} (h : Iv n d S M) (hk : n.2.2 < 3) (hx : 1 ≤ x.toInt ∧ x.toInt ≤ 1000) (hz : 1 ≤ z.toInt ∧ z.toInt ≤ 1000) :
    Iv (n.1, n.2.1, n.2.2 + 1) d (cuM (cuG (cuG (cuG (cuG S n.2.2 0 x) n.2.2 1 y) n.2.2 2 z) n.2.2 3 z) 5 (nI (n.2.2 + 1))) (muA (muA (muA (muA M 12 n.2.2 x) 13 n.2.2 y) 14 n.2.2 z) 15 n.2.2 z) := by
  obtain ⟨h1, h2, h3, h4, h5, h6, h7, h8, h9⟩ := h
  obtain ⟨z15, z16, z20⟩ := h3.2.2 n.2.2 (Nat.le_refl _)
  refine ⟨oM6 (by omega) (sG (by omega) rfl rfl (sG (by omega) rfl rfl (sG (by omega) rfl rfl (sG (by omega) rfl rfl h1)))), ⟨?_, ?_, ?_, ?_⟩, ⟨?_, ?_, ?_⟩, ?_, ?_, ?_, ?_, h8, ⟨h9.1, h9.2.1, ?_⟩⟩
  · rw [rdM, if_neg (by omega)]; exact h2.1
  · rw [rdM, if_neg (by omega)]; exact h2.2.1
  · rw [rdM, if_pos rfl]
  · exact h2.2.2.2
  · intro i hi
    rw [muA_ne (by decide), muA_ne (by decide), muA_ne (by decide), muA_ne (by decide)]
    exact h3.1 i hi
  · intro i hi
    rw [muA_ne (r' := 6) (by decide), muA_ne (r' := 6) (by decide), muA_ne (r' := 6) (by decide), muA_ne (r' := 6) (by decide), muA_ne (r' := 7) (by decide), muA_ne (r' := 7) (by decide), muA_ne (r' := 7) (by decide), muA_ne (r' := 7) (by decide), muA_ne (r' := 10) (by decide), muA_ne (r' := 10) (by decide), muA_ne (r' := 10) (by decide), muA_ne (r' := 10) (by decide), muA_ne (r' := 11) (by decide), muA_ne (r' := 11) (by decide), muA_ne (r' := 11) (by decide), muA_ne (r' := 11) (by decide)]
    exact h3.2.1 i hi
  · intro i hi
    have hi : n.2.2 + 1 ≤ i := hi
    have hz := h3.2.2 i (by omega)
    simp only [rdA]
    simp only [show ¬ (i = n.2.2) by omega, and_false, if_false]
    exact hz
  · exact rp_A (by omega) (rp_A (by omega) (rp_A (by omega) (rp_A (by omega) h4)))
  · exact BT_A (by omega) (BT_A (by omega) (BT_A (by omega) (BT_A (by omega) h5)))
  · intro i
    have hz6 := h6 i
    simp only [rdA]
    by_cases c : i = n.2.2
    · have i0 := i_0
      simp [c, z16, z20]
      omega
    · simp [c]
      exact hz6
  · refine RR_A (by omega) (S := cuG (cuG (cuG S n.2.2 0 x) n.2.2 1 y) n.2.2 2 z) (fun j => by show up2 _ n.2.2 3 z j 7 = _; rw [up2_n (Or.inr (by omega))]) (RR_A (by omega) (S := cuG (cuG S n.2.2 0 x) n.2.2 1 y) (fun j => by show up2 _ n.2.2 2 z j 7 = _; rw [up2_n (Or.inr (by omega))]) (RR_A (by omega) (S := cuG S n.2.2 0 x) (fun j => by show up2 _ n.2.2 1 y j 7 = _; rw [up2_n (Or.inr (by omega))]) (RR_A (by omega) (S := S) (fun j => by show up2 _ n.2.2 0 x j 7 = _; rw [up2_n (Or.inr (by omega))]) h7)))
  · show n.2.2 + 1 ≤ 3; omega
theorem nI_full {k B : Nat} (hk : k ≤ B) (hB : B ≤ 10) : (nI k < nI B ↔ k < B) ∧ (nI k = nI B ↔ k = B) := by
  constructor
  · rw [i_lt, nI_toInt (by omega), nI_toInt (by omega)]; omega
  · exact nI_eq (by omega) (by omega)
theorem a_addLoad (h : Iv n dd S M) (x y : Int32) : Ag (f_X4_addLoad n x y M).2.1 r0112 (fun u => u = 0 ∨ u = 1) (f_X3_addLoad x y S) (f_X4_addLoad n x y M).1 (f_X4_addLoad n x y M).2.2 := by
  have hn := h.ok.1
  have hc := h.2.1.1
  unfold f_X3_addLoad f_X3_addLoad_c3 f_X3_addLoad_b20 f_X4_addLoad f_X4_addLoad_c4 f_X4_addLoad_b21 f_X4_addLoad_b39
  have bad : Ag ((0 : Int32), (n, muS M 0 1)).2.1 r0112 (fun u => u = 0 ∨ u = 1) (Sum.inr (0, S)) ((0 : Int32), (n, muS M 0 1)).1 ((0 : Int32), (n, muS M 0 1)).2.2 := ag_no h (Or.inl rfl) rfl (by decide)
  by_cases c1 : 1 ≤ x ∧ x ≤ 5
  · rw [isO_i c1, in_i c1]
    dsimp only
    rw [if_pos rfl, if_neg (show ¬ (1 : Int32) = 0 from by decide)]
    unfold f_X3_addLoad_c14 f_X3_addLoad_b20 f_X4_addLoad_c15 f_X4_addLoad_b21 f_X4_addLoad_b39
    by_cases c2 : 1 ≤ y ∧ y ≤ 500
    · rw [isO_i c2, in_i c2]
      dsimp only
      rw [if_pos rfl, if_neg (show ¬ (1 : Int32) = 0 from by decide), hc]
      have hf := nI_full (k := n.1) (B := 10) (by omega) (by omega)
      by_cases c3 : n.1 < 10
      · rw [if_pos (hf.1.mpr c3), if_neg (show ¬ nI n.1 = 10 from fun e => by have := hf.2.mp e; omega), if_pos (show (muS M 0 0).1 0 ≤ 0 from by rw [th_s]; decide)]
        have h0 : Iv n dd S (muS M 0 0) := I_th h
        have t0 : (muS M 0 0).1 0 = 0 := th_s
        have e6 : S.1 6 = (muS M 0 0).1 2 := eS 6 2 (by omega) rfl h0
        have ek : (nI n.1).toNatClampNeg = n.1 := nI_clamp (by omega)
        have go : ∀ st : Int32, Ag (n.1 + 1, n.2.1, n.2.2) r0112 (fun u => u = 0 ∨ u = 1) (f_X3_addLoad_b75 x y S n.1 st) (f_X4_addLoad_b91 n x y (muA (muA (muS M 0 0) 1 n.1 x) 2 n.1 y) st).1 (f_X4_addLoad_b91 n x y (muA (muA (muS M 0 0) 1 n.1 x) 2 n.1 y) st).2.2 := by
          intro st
          have h1 := I_addL h0 c3 (c1_i (by decide) (by decide) c1) (c1_i (by decide) (by decide) c2) (st := st)
          unfold f_X3_addLoad_b75 f_X3_addLoad_c75 f_X4_addLoad_b91 f_X2_install
          have e3 : (cuL (cuL (cuL S n.1 1 x) n.1 2 y) n.1 3 st).1 3 + 1 = nI (n.1 + 1) := by
            show S.1 3 + 1 = _
            rw [hc, nI_1]
          rw [e3]
          exact Or.inl ⟨_, _, rfl, t0, by rw [rdM, if_pos rfl], h1⟩
        rw [ek, e6]
        by_cases c4 : (muS M 0 0).1 2 = 0
        · rw [if_pos (show (muA (muA (muS M 0 0) 1 n.1 x) 2 n.1 y).1 2 = 0 from c4), if_pos c4]
          exact go 2
        · rw [if_neg (show ¬ (muA (muA (muS M 0 0) 1 n.1 x) 2 n.1 y).1 2 = 0 from c4), if_neg c4]
          exact go 1
      · rw [if_neg (fun e => c3 (hf.1.mp e)), if_pos (show nI n.1 = 10 from hf.2.mpr (by omega)), if_neg (show ¬ (muS M 0 2).1 0 ≤ 0 from by rw [th_s]; decide)]
        exact ag_no h (Or.inr rfl) rfl (by decide)
    · rw [isO_o c2, in_o c2]
      dsimp only
      rw [if_neg (show ¬ (1 : Int32) = 0 from by decide), if_pos (show (0 : Int32) = 0 from rfl), if_neg (show ¬ (muS M 0 1).1 0 ≤ 0 from by rw [th_s]; decide)]
      exact bad
  · rw [isO_o c1, in_o c1]
    dsimp only
    rw [if_neg (show ¬ (1 : Int32) = 0 from by decide), if_pos (show (0 : Int32) = 0 from rfl), if_neg (show ¬ (muS M 0 1).1 0 ≤ 0 from by rw [th_s]; decide)]
    exact bad
theorem a_addBattery (h : Iv n dd S M) (x y z : Int32) : Ag (f_X4_addBattery n x y z M).2.1 r0112 (fun u => u = 0 ∨ u = 1) (f_X3_addBattery x y z S) (f_X4_addBattery n x y z M).1 (f_X4_addBattery n x y z M).2.2 := by
  have hn := h.ok.2.1
  have hc := h.2.1.2.1
  unfold f_X3_addBattery f_X3_addBattery_c5 f_X3_addBattery_b33 f_X4_addBattery f_X4_addBattery_c6 f_X4_addBattery_b34 f_X4_addBattery_b51
  have bad : Ag ((0 : Int32), (n, muS M 0 1)).2.1 r0112 (fun u => u = 0 ∨ u = 1) (Sum.inr (0, S)) ((0 : Int32), (n, muS M 0 1)).1 ((0 : Int32), (n, muS M 0 1)).2.2 := ag_no h (Or.inl rfl) rfl (by decide)
  by_cases c1 : 1 ≤ x ∧ x ≤ 20000
  · rw [isO_i c1, in_i c1]
    dsimp only
    rw [if_pos rfl, if_neg (show ¬ (1 : Int32) = 0 from by decide)]
    unfold f_X3_addBattery_c16 f_X3_addBattery_b33 f_X4_addBattery_c17 f_X4_addBattery_b34 f_X4_addBattery_b51
    by_cases c2 : 1 ≤ y ∧ y ≤ 500
    · rw [isO_i c2, in_i c2]
      dsimp only
      rw [if_pos rfl, if_neg (show ¬ (1 : Int32) = 0 from by decide)]
      unfold f_X3_addBattery_c27 f_X3_addBattery_b33 f_X4_addBattery_c28 f_X4_addBattery_b34 f_X4_addBattery_b51
      by_cases c5 : 1 ≤ z ∧ z ≤ 500
      · rw [isO_i c5, in_i c5]
        dsimp only
        rw [if_pos rfl, if_neg (show ¬ (1 : Int32) = 0 from by decide), hc]
        have hf := nI_full (k := n.2.1) (B := 3) (by omega) (by omega)
        by_cases c3 : n.2.1 < 3
        · rw [if_pos (hf.1.mpr c3), if_neg (show ¬ nI n.2.1 = 3 from fun e => by have := hf.2.mp e; omega), if_pos (show (muS M 0 0).1 0 ≤ 0 from by rw [th_s]; decide)]
          have h0 : Iv n dd S (muS M 0 0) := I_th h
          have t0 : (muS M 0 0).1 0 = 0 := th_s
          have ek : (nI n.2.1).toNatClampNeg = n.2.1 := nI_clamp (by omega)
          have h1 := I_addB h0 c3 (c1_i (by decide) (by decide) c1) (c1_i (by decide) (by decide) c2) (c1_i (by decide) (by decide) c5)
          rw [ek]
          unfold f_X3_addBattery_c77 f_X0_install
          have e3 : (cuB (cuB (cuB (cuB S n.2.1 0 x) n.2.1 1 x) n.2.1 2 y) n.2.1 3 z).1 4 + 1 = nI (n.2.1 + 1) := by
            show S.1 4 + 1 = _
            rw [hc, nI_1]
          rw [e3]
          exact Or.inl ⟨_, _, rfl, t0, by rw [rdM, if_pos rfl], h1⟩
        · rw [if_neg (fun e => c3 (hf.1.mp e)), if_pos (show nI n.2.1 = 3 from hf.2.mpr (by omega)), if_neg (show ¬ (muS M 0 2).1 0 ≤ 0 from by rw [th_s]; decide)]
          exact ag_no h (Or.inr rfl) rfl (by decide)
      · rw [isO_o c5, in_o c5]
        dsimp only
        rw [if_neg (show ¬ (1 : Int32) = 0 from by decide), if_pos (show (0 : Int32) = 0 from rfl), if_neg (show ¬ (muS M 0 1).1 0 ≤ 0 from by rw [th_s]; decide)]
        exact bad
    · rw [isO_o c2, in_o c2]
      dsimp only
      rw [if_neg (show ¬ (1 : Int32) = 0 from by decide), if_pos (show (0 : Int32) = 0 from rfl), if_neg (show ¬ (muS M 0 1).1 0 ≤ 0 from by rw [th_s]; decide)]
      exact bad
  · rw [isO_o c1, in_o c1]
    dsimp only
    rw [if_neg (show ¬ (1 : Int32) = 0 from by decide), if_pos (show (0 : Int32) = 0 from rfl), if_neg (show ¬ (muS M 0 1).1 0 ≤ 0 from by rw [th_s]; decide)]
    exact bad
theorem a_addGenerator (h : Iv n dd S M) (x y z : Int32) : Ag (f_X4_addGenerator n x y z M).2.1 r0112 (fun u => u = 0 ∨ u = 1) (f_X3_addGenerator x y z S) (f_X4_addGenerator n x y z M).1 (f_X4_addGenerator n x y z M).2.2 := by
  have hn := h.ok.2.2
  have hc := h.2.1.2.2.1
  unfold f_X3_addGenerator f_X3_addGenerator_c5 f_X3_addGenerator_b32 f_X4_addGenerator f_X4_addGenerator_c6 f_X4_addGenerator_b33 f_X4_addGenerator_b50
  have bad : Ag ((0 : Int32), (n, muS M 0 1)).2.1 r0112 (fun u => u = 0 ∨ u = 1) (Sum.inr (0, S)) ((0 : Int32), (n, muS M 0 1)).1 ((0 : Int32), (n, muS M 0 1)).2.2 := ag_no h (Or.inl rfl) rfl (by decide)
  by_cases c1 : 1 ≤ x ∧ x ≤ 1000
  · rw [isO_i c1, in_i c1]
    dsimp only
    rw [if_pos rfl, if_neg (show ¬ (1 : Int32) = 0 from by decide)]
    unfold f_X3_addGenerator_c15 f_X3_addGenerator_b32 f_X4_addGenerator_c16 f_X4_addGenerator_b33 f_X4_addGenerator_b50
    by_cases c2 : 1 ≤ y ∧ y ≤ 10
    · rw [isO_i c2, in_i c2]
      dsimp only
      rw [if_pos rfl, if_neg (show ¬ (1 : Int32) = 0 from by decide)]
      unfold f_X3_addGenerator_c26 f_X3_addGenerator_b32 f_X4_addGenerator_c27 f_X4_addGenerator_b33 f_X4_addGenerator_b50
      by_cases c5 : 1 ≤ z ∧ z ≤ 1000
      · rw [isO_i c5, in_i c5]
        dsimp only
        rw [if_pos rfl, if_neg (show ¬ (1 : Int32) = 0 from by decide), hc]
        have hf := nI_full (k := n.2.2) (B := 3) (by omega) (by omega)
        by_cases c3 : n.2.2 < 3
        · rw [if_pos (hf.1.mpr c3), if_neg (show ¬ nI n.2.2 = 3 from fun e => by have := hf.2.mp e; omega), if_pos (show (muS M 0 0).1 0 ≤ 0 from by rw [th_s]; decide)]
          have h0 : Iv n dd S (muS M 0 0) := I_th h
          have t0 : (muS M 0 0).1 0 = 0 := th_s
          have ek : (nI n.2.2).toNatClampNeg = n.2.2 := nI_clamp (by omega)
          have h1 := I_addG h0 c3 (c1_i (by decide) (by decide) c1) (c1_i (by decide) (by decide) c5) (y := y)
          rw [ek]
          unfold f_X3_addGenerator_c76 f_X1_install
          have e3 : (cuG (cuG (cuG (cuG S n.2.2 0 x) n.2.2 1 y) n.2.2 2 z) n.2.2 3 z).1 5 + 1 = nI (n.2.2 + 1) := by
            show S.1 5 + 1 = _
            rw [hc, nI_1]
          rw [e3]
          exact Or.inl ⟨_, _, rfl, t0, by rw [rdM, if_pos rfl], h1⟩
        · rw [if_neg (fun e => c3 (hf.1.mp e)), if_pos (show nI n.2.2 = 3 from hf.2.mpr (by omega)), if_neg (show ¬ (muS M 0 2).1 0 ≤ 0 from by rw [th_s]; decide)]
          exact ag_no h (Or.inr rfl) rfl (by decide)
      · rw [isO_o c5, in_o c5]
        dsimp only
        rw [if_neg (show ¬ (1 : Int32) = 0 from by decide), if_pos (show (0 : Int32) = 0 from rfl), if_neg (show ¬ (muS M 0 1).1 0 ≤ 0 from by rw [th_s]; decide)]
        exact bad
    · rw [isO_o c2, in_o c2]
      dsimp only
      rw [if_neg (show ¬ (1 : Int32) = 0 from by decide), if_pos (show (0 : Int32) = 0 from rfl), if_neg (show ¬ (muS M 0 1).1 0 ≤ 0 from by rw [th_s]; decide)]
      exact bad
  · rw [isO_o c1, in_o c1]
    dsimp only
    rw [if_neg (show ¬ (1 : Int32) = 0 from by decide), if_pos (show (0 : Int32) = 0 from rfl), if_neg (show ¬ (muS M 0 1).1 0 ≤ 0 from by rw [th_s]; decide)]
    exact bad
end AD
