/-! ===== generators: moving, giving ===== -/
section GG
variable {n : Nat × Nat × Nat} {d : Nat → Int32} {S : CS} {M : MS}
theorem one0 : ((1 : Int32) = 0) = False := eq_false (by decide)
theorem two0 : ((2 : Int32) = 0) = False := eq_false (by decide)
theorem one2 : ((1 : Int32) = 2) = False := eq_false (by decide)
theorem zer2 : ((0 : Int32) = 2) = False := eq_false (by decide)
theorem two1 : ((2 : Int32) = 1) = False := eq_false (by decide)
theorem zer1 : ((0 : Int32) = 1) = False := eq_false (by decide)
/-- generator k alone has moved -/
theorem Iv_gen {d2 : Nat → Int32} {S2 : CS} {M2 : MS} {k : Nat} (h : Iv n d S M) (hk : k < n.2.2)
    (hR : S2.2.2.2 k 0 = M2.2 12 k ∧ S2.2.2.2 k 1 = M2.2 13 k ∧ S2.2.2.2 k 2 = M2.2 14 k ∧ S2.2.2.2 k 3 = M2.2 15 k ∧ S2.2.2.2 k 4 = M2.2 16 k ∧ S2.2.2.2 k 5 = M2.2 17 k ∧ S2.2.2.2 k 6 = M2.2 18 k ∧ S2.2.2.2 k 8 = M2.2 20 k ∧ S2.2.2.2 k 9 = M2.2 21 k ∧ S2.2.2.2 k 10 = M2.2 24 k ∧ S2.2.2.2 k 11 = M2.2 22 k ∧ S2.2.2.2 k 12 = M2.2 23 k ∧ S2.2.2.2 k 13 = M2.2 25 k ∧ S2.2.2.2 k 14 = M2.2 26 k)
    (hS : S2.1 = S.1 ∧ S2.2.1 = S.2.1 ∧ S2.2.2.1 = S.2.2.1) (hM : M2.1 = M.1) (hr : ∀ r i, r < 15 ∨ i ≠ k → M2.2 r i = M.2 r i) (hg : ∀ i j, i ≠ k → S2.2.2.2 i j = S.2.2.2 i j) (hd : ∀ i, i ≠ k → d2 i = d i)
    (h20 : 0 ≤ (M2.2 20 k).toInt ∧ (M2.2 20 k).toInt ≤ (M.2 12 k).toInt) (h15 : 0 ≤ (M2.2 15 k).toInt ∧ (M2.2 15 k).toInt ≤ (M.2 14 k).toInt) (h16 : M2.2 16 k = 0 ∨ M2.2 16 k = 1 ∨ M2.2 16 k = 2)
    (hq : M2.2 16 k = 2 → M2.2 17 k ≠ 0 → S2.2.2.2 k 7 = M2.2 19 k + d2 k) : Iv n d2 S2 M2 := by
  obtain ⟨⟨r1, r2, r3, r4⟩, ⟨a1, a2, a3, a4⟩, ⟨z1, z2, z3⟩, hL, hT, hG, hRR, hm, hn⟩ := h
  obtain ⟨s1, s2, s3⟩ := hS
  have row : ∀ r, r < 15 → M2.2 r = M.2 r := fun r h1 => funext (fun i => hr r i (Or.inl h1))
  refine ⟨⟨?_, ?_, ?_, ?_⟩, ⟨?_, ?_, ?_, ?_⟩, ⟨?_, ?_, ?_⟩, ?_, ?_, ?_, ?_, ?_, hn⟩
  · intro j h1 h2 i; rw [s2, row j (by omega)]; exact r1 j h1 h2 i
  · intro j h1 i; rw [s3, row (6 + j) (by omega)]; exact r2 j h1 i
  · intro j h1 h2 i
    by_cases c : i = k
    · subst c
      obtain ⟨b0, b1, b2, b3, b4, b5, b6, b8, b9, b10, b11, b12, b13, b14⟩ := hR
      rcases (show j = 0 ∨ j = 1 ∨ j = 2 ∨ j = 3 ∨ j = 4 ∨ j = 5 ∨ j = 6 ∨ j = 8 ∨ j = 9 ∨ j = 10 ∨ j = 11 ∨ j = 12 ∨ j = 13 ∨ j = 14 by omega) with e | e | e | e | e | e | e | e | e | e | e | e | e | e
      all_goals subst e
      · exact b0
      · exact b1
      · exact b2
      · exact b3
      · exact b4
      · exact b5
      · exact b6
      · exact b8
      · exact b9
      · exact b10
      · exact b11
      · exact b12
      · exact b13
      · exact b14
    · rw [hg i j c, hr (gr j) i (Or.inr c)]; exact r3 j h1 h2 i
  · intro j h1 h2; rw [s1, hM]; exact r4 j h1 h2
  · rw [s1]; exact a1
  · rw [s1]; exact a2
  · rw [s1]; exact a3
  · rw [s2]; exact a4
  · intro i hi; rw [row 3 (by omega)]; exact z1 i hi
  · intro i hi; rw [row 6 (by omega), row 7 (by omega), row 10 (by omega), row 11 (by omega)]; exact z2 i hi
  · intro i hi
    have c : i ≠ k := by omega
    rw [hr 15 i (Or.inr c), hr 16 i (Or.inr c), hr 20 i (Or.inr c)]; exact z3 i hi
  · rw [row 1 (by omega), row 2 (by omega)]; exact hL
  · intro i; rw [row 6 (by omega), row 7 (by omega), row 8 (by omega), row 9 (by omega)]; exact hT i
  · intro i
    rw [row 12 (by omega), row 14 (by omega)]
    by_cases c : i = k
    · subst c
      exact ⟨⟨h20.1, h20.2, (hG i).1.2.2⟩, ⟨h15.1, h15.2, (hG i).2.1.2.2⟩, h16⟩
    · rw [hr 15 i (Or.inr c), hr 16 i (Or.inr c), hr 20 i (Or.inr c)]; exact hG i
  · intro i h1 h2
    by_cases c : i = k
    · subst c; exact hq h1 h2
    · rw [hr 16 i (Or.inr c)] at h1
      rw [hr 17 i (Or.inr c)] at h2
      rw [hr 19 i (Or.inr c), hg i 7 c, hd i c]
      exact hRR i h1 h2
  · rw [hM]; exact hm
def mvC (k : Nat) (S : CS) : CS := if (cuG S k 8 0).2.2.2 k 4 = 0 then f_X3_beginStart k (cuG S k 8 0) else if (cuG S k 8 0).2.2.2 k 4 = 1 then f_X1_goOnStarting k (cuG S k 8 0) else f_X1_goOnRunning k ((cuG S k 8 0).1 6) (cuG S k 8 0)
def mvM (n : Nat × Nat × Nat) (k : Nat) (M : MS) : MS := if (muA M 20 k 0).2 16 k = 0 then f_X4_beginsToStart n k (muA M 20 k 0) else if (muA M 20 k 0).2 16 k = 1 then f_X4_goesOnStarting n k (muA M 20 k 0) else f_X4_goesOnRunning n k (muA M 20 k 0)
def dup (d : Nat → Int32) (k : Nat) (v : Int32) : Nat → Int32 := fun i => if i = k then v else d i
theorem dup_s {k : Nat} {v : Int32} : dup d k v k = v := if_pos rfl
theorem dup_n {k i : Nat} {v : Int32} (h : i ≠ k) : dup d k v i = d i := if_neg h
theorem le0_eq {x : Int32} (h : 0 ≤ x.toInt) : (x ≤ 0) = (x = 0) := propext ⟨fun z => by rw [i_eq, i_0]; rw [i_le, i_0] at z; omega, fun z => by rw [z]; decide⟩
set_option maxHeartbeats 4000000 in
theorem mv_R {k : Nat} (h : Iv n d S M) (hk : k < n.2.2) (h0 : d k = 0) : Iv n (dup d k 1) (mvC k S) (mvM n k M) := by
  have e0 := eG 0 12 (by omega) rfl h k
  have e1 := eG 1 13 (by omega) rfl h k
  have e2 := eG 2 14 (by omega) rfl h k
  have e3 := eG 3 15 (by omega) rfl h k
  have e4 := eG 4 16 (by omega) rfl h k
  have e5 := eG 5 17 (by omega) rfl h k
  have e6 := eG 6 18 (by omega) rfl h k
  have e8 := eG 8 20 (by omega) rfl h k
  have e9 := eG 9 21 (by omega) rfl h k
  have e10 := eG 10 24 (by omega) rfl h k
  have e11 := eG 11 22 (by omega) rfl h k
  have e12 := eG 12 23 (by omega) rfl h k
  have e13 := eG 13 25 (by omega) rfl h k
  have e14 := eG 14 26 (by omega) rfl h k
  have m6 := eS 6 2 (by omega) rfl h
  have m7 := eS 7 1 (by omega) rfl h
  have m8 := eS 8 3 (by omega) rfl h
  have m9 := eS 9 4 (by omega) rfl h
  have g20 : 0 ≤ (M.2 12 k).toInt := Int.le_trans (h.bg k).1.1 (h.bg k).1.2.1
  have g15 : 0 ≤ (M.2 15 k).toInt ∧ (M.2 15 k).toInt ≤ (M.2 14 k).toInt := ⟨(h.bg k).2.1.1, (h.bg k).2.1.2.1⟩
  have f0 := le0_eq g15.1
  have hrr := h.rr k
  unfold mvC mvM
  have q4 : (cuG S k 8 0).2.2.2 k 4 = M.2 16 k := by rw [rdG, if_neg (by omega), e4]
  have q16 : (muA M 20 k 0).2 16 k = M.2 16 k := by rw [rdA, if_neg (by omega)]
  rw [q4, q16]
  rcases (h.bg k).2.2 with c | c | c
  · rw [if_pos c, if_pos c]
    unfold f_X3_beginStart f_X4_beginsToStart f_X3_beginStart_b30 f_X4_beginsToStart_b22 f_X3_beginStart_b31 f_X4_beginsToStart_b23 f_X3_beginStart_b62 f_X4_beginsToStart_b58 f_X3_beginStart_b63 f_X4_beginsToStart_b59 f_X3_beginStart_b72 f_X4_beginsToStart_b77 f_X3_beginStart_b90 f_X4_beginsToStart_b103
    simp only [rdG, rdA, rdG1, rdA1, e0, e1, e2, e3, e4, e5, e6, e8, e9, e10, e11, e12, e13, e14, m6, m7, m8, m9, f0, eq_self, and_self, and_true, true_and, and_false, false_and, if_true, if_false, Nat.reduceEqDiff, one0, two0, one2, zer2, two1, zer1]
    by_cases c1 : M.2 15 k = 0
    · simp only [c1, if_true, if_false, one0, ite_self]
      refine Iv_gen h hk ?_ ⟨rfl, rfl, rfl⟩ rfl (fun r i hri => ?_) (fun i j hij => ?_) (fun i hi => dup_n hi) ?_ ?_ ?_ (fun z1 z2 => ?_)
      · simp [rdG, rdA, e0, e1, e2, e3, e4, e5, e6, e8, e9, e10, e11, e12, e13, e14, c]
      · simp only [rdA]
        repeat rw [if_neg (by omega)]
      · simp only [rdG]
        repeat rw [if_neg (by omega)]
      · simp [rdA, i_0, g20]
      · simp [rdA]; exact g15
      · simp [rdA, c]
      · simp [rdA, c] at z1 z2
    · by_cases c2 : M.1 2 = 0
      · by_cases c3 : M.1 3 < M.1 4
        · simp only [c1, c2, c3, if_true, if_false, one0, ite_self]
          refine Iv_gen h hk ?_ ⟨rfl, rfl, rfl⟩ rfl (fun r i hri => ?_) (fun i j hij => ?_) (fun i hi => dup_n hi) ?_ ?_ ?_ (fun z1 z2 => ?_)
          · simp [rdG, rdA, e0, e1, e2, e3, e4, e5, e6, e8, e9, e10, e11, e12, e13, e14, c]
          · simp only [rdA]
            repeat rw [if_neg (by omega)]
          · simp only [rdG]
            repeat rw [if_neg (by omega)]
          · simp [rdA, i_0, g20]
          · simp [rdA]; exact g15
          · simp [rdA, c]
          · simp [rdA, c] at z1 z2
        · simp only [c1, c2, c3, if_true, if_false, one0, ite_self]
          refine Iv_gen h hk ?_ ⟨rfl, rfl, rfl⟩ rfl (fun r i hri => ?_) (fun i j hij => ?_) (fun i hi => dup_n hi) ?_ ?_ ?_ (fun z1 z2 => ?_)
          · simp [rdG, rdA, e0, e1, e2, e3, e4, e5, e6, e8, e9, e10, e11, e12, e13, e14, c]
          · simp only [rdA]
            repeat rw [if_neg (by omega)]
          · simp only [rdG]
            repeat rw [if_neg (by omega)]
          · simp [rdA, i_0, g20]
          · simp [rdA]; exact g15
          · simp [rdA, c]
          · simp [rdA, c] at z1 z2
      · by_cases c4 : M.2 22 k ≤ 0
        · simp only [c1, c2, c4, if_true, if_false, one0, ite_self]
          refine Iv_gen h hk ?_ ⟨rfl, rfl, rfl⟩ rfl (fun r i hri => ?_) (fun i j hij => ?_) (fun i hi => dup_n hi) ?_ ?_ ?_ (fun z1 z2 => ?_)
          · simp [rdG, rdA, e0, e1, e2, e3, e4, e5, e6, e8, e9, e10, e11, e12, e13, e14, c]
          · simp only [rdA]
            repeat rw [if_neg (by omega)]
          · simp only [rdG]
            repeat rw [if_neg (by omega)]
          · simp [rdA, i_0, g20]
          · simp [rdA]; exact g15
          · simp [rdA, c]
          · simp [rdA, c] at z1 z2
        · by_cases c5 : M.1 1 - M.1 1 / M.2 22 k * M.2 22 k = 0
          · simp only [c1, c2, c4, c5, if_true, if_false, one0, ite_self]
            refine Iv_gen h hk ?_ ⟨rfl, rfl, rfl⟩ rfl (fun r i hri => ?_) (fun i j hij => ?_) (fun i hi => dup_n hi) ?_ ?_ ?_ (fun z1 z2 => ?_)
            · simp [rdG, rdA, e0, e1, e2, e3, e4, e5, e6, e8, e9, e10, e11, e12, e13, e14, c]
            · simp only [rdA]
              repeat rw [if_neg (by omega)]
            · simp only [rdG]
              repeat rw [if_neg (by omega)]
            · simp [rdA, i_0, g20]
            · simp [rdA]; exact g15
            · simp [rdA, c]
            · simp [rdA, c] at z1 z2
          · simp only [c1, c2, c4, c5, if_true, if_false, one0, ite_self]
            refine Iv_gen h hk ?_ ⟨rfl, rfl, rfl⟩ rfl (fun r i hri => ?_) (fun i j hij => ?_) (fun i hi => dup_n hi) ?_ ?_ ?_ (fun z1 z2 => ?_)
            · simp [rdG, rdA, e0, e1, e2, e3, e4, e5, e6, e8, e9, e10, e11, e12, e13, e14, c]
            · simp only [rdA]
              repeat rw [if_neg (by omega)]
            · simp only [rdG]
              repeat rw [if_neg (by omega)]
            · simp [rdA, i_0, g20]
            · simp [rdA]; exact g15
            · simp [rdA, c]
            · simp [rdA, c] at z1 z2
  · have n0 : ¬ M.2 16 k = 0 := by rw [c]; decide
    rw [if_neg n0, if_pos c, if_neg n0, if_pos c]
    unfold f_X1_goOnStarting f_X4_goesOnStarting f_X1_goOnStarting_b62 f_X4_goesOnStarting_b94 f_X1_goOnStarting_c46 f_X4_goesOnStarting_b70 f_X4_goesOnStarting_c74 f_X1_stopFailing f_X1_stopFailing_b17 f_X4_stops f_X1_goOnStarting_b62 f_X4_goesOnStarting_b94
    simp only [rdG, rdA, rdG1, rdA1, e0, e1, e2, e3, e4, e5, e6, e8, e9, e10, e11, e12, e13, e14, eq_self, and_self, and_true, true_and, and_false, false_and, if_true, if_false, Nat.reduceEqDiff, one0, two0, one2, zer2, two1, zer1]
    by_cases c1 : M.2 18 k - 1 ≤ 0
    · by_cases c2 : M.2 21 k ≤ 0
      · simp only [c1, c2, if_true, if_false, one0, ite_self]
        refine Iv_gen h hk ?_ ⟨rfl, rfl, rfl⟩ rfl (fun r i hri => ?_) (fun i j hij => ?_) (fun i hi => dup_n hi) ?_ ?_ ?_ (fun z1 z2 => ?_)
        · simp [rdG, rdA, e0, e1, e2, e3, e4, e5, e6, e8, e9, e10, e11, e12, e13, e14, c]
        · simp only [rdA]
          repeat rw [if_neg (by omega)]
        · simp only [rdG]
          repeat rw [if_neg (by omega)]
        · simp [rdA, i_0, g20]
        · simp [rdA]; exact g15
        · simp [rdA, c]
        · simp [rdG, rdA, dup_s]
      · by_cases c3 : M.2 17 k = 0
        · simp only [c1, c2, c3, if_true, if_false, one0, ite_self]
          refine Iv_gen h hk ?_ ⟨rfl, rfl, rfl⟩ rfl (fun r i hri => ?_) (fun i j hij => ?_) (fun i hi => dup_n hi) ?_ ?_ ?_ (fun z1 z2 => ?_)
          · simp [rdG, rdA, e0, e1, e2, e3, e4, e5, e6, e8, e9, e10, e11, e12, e13, e14, c, c3]
          · simp only [rdA]
            repeat rw [if_neg (by omega)]
          · simp only [rdG]
            repeat rw [if_neg (by omega)]
          · simp [rdA, i_0, g20]
          · simp [rdA]; exact g15
          · simp [rdA, c, c3]
          · simp [rdA, c, c3] at z1 z2
        · simp only [c1, c2, c3, if_true, if_false, one0, ite_self]
          refine Iv_gen h hk ?_ ⟨rfl, rfl, rfl⟩ rfl (fun r i hri => ?_) (fun i j hij => ?_) (fun i hi => dup_n hi) ?_ ?_ ?_ (fun z1 z2 => ?_)
          · simp [rdG, rdA, e0, e1, e2, e3, e4, e5, e6, e8, e9, e10, e11, e12, e13, e14, c]
          · simp only [rdA]
            repeat rw [if_neg (by omega)]
          · simp only [rdG]
            repeat rw [if_neg (by omega)]
          · simp [rdA, i_0, g20]
          · simp [rdA]; exact g15
          · simp [rdA, c]
          · simp [rdA, c] at z1 z2
    · simp only [c1, if_true, if_false, one0, ite_self]
      refine Iv_gen h hk ?_ ⟨rfl, rfl, rfl⟩ rfl (fun r i hri => ?_) (fun i j hij => ?_) (fun i hi => dup_n hi) ?_ ?_ ?_ (fun z1 z2 => ?_)
      · simp [rdG, rdA, e0, e1, e2, e3, e4, e5, e6, e8, e9, e10, e11, e12, e13, e14, c]
      · simp only [rdA]
        repeat rw [if_neg (by omega)]
      · simp only [rdG]
        repeat rw [if_neg (by omega)]
      · simp [rdA, i_0, g20]
      · simp [rdA]; exact g15
      · simp [rdA, c]
      · simp [rdA, c] at z1 z2
  · have n0 : ¬ M.2 16 k = 0 := by rw [c]; decide
    have n1 : ¬ M.2 16 k = 1 := by rw [c]; decide
    rw [if_neg n0, if_neg n1, if_neg n0, if_neg n1]
    unfold f_X1_goOnRunning f_X4_goesOnRunning f_X1_goOnRunning_b71 f_X4_goesOnRunning_b26 f_X4_goesOnRunning_b68 f_X4_goesOnRunning_b89 f_X4_goesOnRunning_c62 f_X4_goesOnRunning_c86 f_X4_stops f_X4_goesOnRunning_b89
    simp only [rdG, rdA, rdG1, rdA1, e0, e1, e2, e3, e4, e5, e6, e8, e9, e10, e11, e12, e13, e14, m6, eq_self, and_self, and_true, true_and, and_false, false_and, if_true, if_false, Nat.reduceEqDiff, one0, two0, one2, zer2, two1, zer1]
    by_cases c2 : M.1 2 = 0
    · by_cases c3 : M.2 17 k = 0
      · simp only [c2, c3, if_true, if_false, one0, ite_self]
        refine Iv_gen h hk ?_ ⟨rfl, rfl, rfl⟩ rfl (fun r i hri => ?_) (fun i j hij => ?_) (fun i hi => dup_n hi) ?_ ?_ ?_ (fun z1 z2 => ?_)
        · simp [rdG, rdA, e0, e1, e2, e3, e4, e5, e6, e8, e9, e10, e11, e12, e13, e14, c, c3]
        · simp only [rdA]
          repeat rw [if_neg (by omega)]
        · simp only [rdG]
          repeat rw [if_neg (by omega)]
        · simp [rdA, i_0, g20]
        · simp [rdA]; exact g15
        · simp [rdA, c, c3]
        · simp [rdA, c, c3] at z1 z2
      · simp only [c2, c3, if_true, if_false, one0, ite_self]
        refine Iv_gen h hk ?_ ⟨rfl, rfl, rfl⟩ rfl (fun r i hri => ?_) (fun i j hij => ?_) (fun i hi => dup_n hi) ?_ ?_ ?_ (fun z1 z2 => ?_)
        · simp [rdG, rdA, e0, e1, e2, e3, e4, e5, e6, e8, e9, e10, e11, e12, e13, e14, c]
        · simp only [rdA]
          repeat rw [if_neg (by omega)]
        · simp only [rdG]
          repeat rw [if_neg (by omega)]
        · simp [rdA, i_0, g20]
        · simp [rdA]; exact g15
        · simp [rdA, c]
        · simp [rdA, c] at z1 z2
    · by_cases c3 : M.2 17 k = 0
      · simp only [c2, c3, if_true, if_false, one0, ite_self]
        refine Iv_gen h hk ?_ ⟨rfl, rfl, rfl⟩ rfl (fun r i hri => ?_) (fun i j hij => ?_) (fun i hi => dup_n hi) ?_ ?_ ?_ (fun z1 z2 => ?_)
        · simp [rdG, rdA, e0, e1, e2, e3, e4, e5, e6, e8, e9, e10, e11, e12, e13, e14, c, c3]
        · simp only [rdA]
          repeat rw [if_neg (by omega)]
        · simp only [rdG]
          repeat rw [if_neg (by omega)]
        · simp [rdA, i_0, g20]
        · simp [rdA]; exact g15
        · simp [rdA, c, c3]
        · simp [rdA, c, c3] at z1 z2
      · have e7 : S.2.2.2 k 7 = M.2 19 k := by rw [hrr c c3, h0, i_add0]
        by_cases c4 : M.2 19 k < M.2 23 k
        · simp only [c2, c3, c4, e7, if_true, if_false, one0, ite_self]
          refine Iv_gen h hk ?_ ⟨rfl, rfl, rfl⟩ rfl (fun r i hri => ?_) (fun i j hij => ?_) (fun i hi => dup_n hi) ?_ ?_ ?_ (fun z1 z2 => ?_)
          · simp [rdG, rdA, e0, e1, e2, e3, e4, e5, e6, e8, e9, e10, e11, e12, e13, e14, c]
          · simp only [rdA]
            repeat rw [if_neg (by omega)]
          · simp only [rdG]
            repeat rw [if_neg (by omega)]
          · simp [rdA, i_0, g20]
          · simp [rdA]; exact g15
          · simp [rdA, c]
          · simp [rdG, rdA, dup_s, e7]
        · simp only [c2, c3, c4, e7, if_true, if_false, one0, ite_self]
          refine Iv_gen h hk ?_ ⟨rfl, rfl, rfl⟩ rfl (fun r i hri => ?_) (fun i j hij => ?_) (fun i hi => dup_n hi) ?_ ?_ ?_ (fun z1 z2 => ?_)
          · simp [rdG, rdA, e0, e1, e2, e3, e4, e5, e6, e8, e9, e10, e11, e12, e13, e14, c]
          · simp only [rdA]
            repeat rw [if_neg (by omega)]
          · simp only [rdG]
            repeat rw [if_neg (by omega)]
          · simp [rdA, i_0, g20]
          · simp [rdA]; exact g15
          · simp [rdA, c]
          · simp [rdA, c] at z1 z2
theorem mvC_pad {k : Nat} (h : Iv n d S M) (hk : n.2.2 ≤ k) : mvC k S = S := by
  obtain ⟨z1, z2, z3⟩ := gn0 h hk
  have e8 : cuG S k 8 0 = S := cuG_same (by rw [eG 8 20 (by omega) rfl h, z3])
  unfold mvC
  rw [e8, eG 4 16 (by omega) rfl h, z2, if_pos rfl]
  unfold f_X3_beginStart
  rw [eG 3 15 (by omega) rfl h, z1, if_pos rfl]
theorem mvC_lp (S : CS) : f_X3_moveGenerators S = itr mvC 3 S := by
  refine lpI (H := f_X3_moveGenerators_h10) (B := 3) (fin := fun S => S) (st := mvC) (fun q k S => ?_) S
  rw [f_X3_moveGenerators_h10]
  unfold mvC f_X3_moveGenerators_c59 f_X3_moveGenerators_c67 f_X3_moveGenerators_c79 f_X3_moveGenerators_b82
  by_cases c : 3 ≤ k
  · rw [if_pos c, if_pos c]
  · rw [if_neg c, if_neg c]
    split
    · rfl
    · split <;> rfl
theorem mvM_lp (n : Nat × Nat × Nat) (M : MS) : f_X4_minute_h61 n (n.2.2 + 1) 0 M = f_X4_minute_c123 n (f_X4_sheds n (itr (mvM n) n.2.2 M)) := by
  refine lpI (H := f_X4_minute_h61 n) (B := n.2.2) (fin := fun M => f_X4_minute_c123 n (f_X4_sheds n M)) (st := mvM n) (fun q k S => ?_) M
  rw [f_X4_minute_h61]
  unfold mvM f_X4_minute_c87 f_X4_minute_c105 f_X4_minute_c113 f_X4_minute_b116
  by_cases c : n.2.2 ≤ k
  · rw [if_pos c, if_pos c]
  · rw [if_neg c, if_neg c]
    split
    · rfl
    · split <;> rfl
def d01 (k : Nat) : Nat → Int32 := fun i => if i < k then 1 else 0
theorem RR_d {d2 : Nat → Int32} (h : Iv n d S M) (hd : ∀ i, i < n.2.2 → d2 i = d i) : Iv n d2 S M := by
  obtain ⟨r, a, z, hL, hT, hG, hRR, hm, hn⟩ := h
  refine ⟨r, a, z, hL, hT, hG, fun i h1 h2 => ?_, hm, hn⟩
  rcases Nat.lt_or_ge i n.2.2 with c | c
  · rw [hd i c]; exact hRR i h1 h2
  · exact absurd ((z.2.2 i c).2.1 ▸ h1) (by decide)
theorem mv_all (h : Iv n (d01 0) S M) : Iv n (d01 3) (f_X3_moveGenerators S) (itr (mvM n) n.2.2 M) := by
  rw [mvC_lp]
  refine itS (P := fun k S M => Iv n (d01 k) S M) h.ok.2.2 (fun k S M hk h => ?_) (fun k S M hk _ h => ?_) h
  · refine RR_d (mv_R h hk (if_neg (by omega))) (fun i _ => ?_)
    show (if i < k + 1 then (1 : Int32) else 0) = if i = k then 1 else if i < k then 1 else 0
    by_cases c : i = k
    · rw [if_pos (by omega), if_pos c]
    · rw [if_neg c]
      by_cases c2 : i < k
      · rw [if_pos (by omega), if_pos c2]
      · rw [if_neg (by omega), if_neg c2]
  · rw [mvC_pad h hk]
    refine RR_d h (fun i hi => ?_)
    unfold d01
    rw [if_pos (by omega), if_pos (by omega)]
end GG
