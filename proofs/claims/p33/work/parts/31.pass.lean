/-! ===== a minute whole; minutes one after the other ===== -/
theorem minute {n : Nat × Nat × Nat} {t : Nat} {f : Int32} {S : CS} (h : JI n t f S) (ht : t ≤ 2000) : ∃ (s : Nat) (T : CS), f_X3_passOneMinute S = (nI s, T) ∧ JI n (t + 1) f T ∧ MF n S T s := by
  obtain ⟨s, V, e0, v1, v7, v8, vL, vB, vG0, vG8, vGz, vs, vup, v12, vz, v3, v21, v21a, v21b, vd⟩ := up_all h
  obtain ⟨⟨⟨c1, c2, c3⟩, hn1, hn2, hn3⟩, hb6, h7, hL, ⟨hB, hB0⟩, ⟨hG, hG0⟩, hE, hC⟩ := h
  rw [e0]
  unfold f_X3_passOneMinute_b95 f_X3_passOneMinute_c96 f_X3_passOneMinute_c100
  rw [burn_lp, wear_lp]
  refine ⟨s, _, rfl, ?_⟩
  have pV : PW V := fun k => by rw [vL k 2 (by decide)]; exact (hL k).2.1
  have bV : BT V := fun k => by rw [vB k 0 (by decide), vB k 1 (by decide), vB k 2 (by decide), vB k 3 (by decide)]; exact hB k
  have gV : GV V := fun k hk => by rw [vG8 k hk, vG0, i_0]; have := hG k; omega
  have e6 : V.1 6 = S.1 6 := v1 6 (by decide) (by decide) (by decide)
  obtain ⟨s1, s2, s3, s4, s5, s6, s7, s8, s9⟩ := serve_all pV bV gV vG8 (fun c => vd (e6.symm.trans c))
  generalize f_X3_serveLoads V = T1 at s1 s2 s3 s4 s5 s6 s7 s8 s9
  have b1 : BT T1 := fun k => by
    rw [s5 k 0 (by decide), s5 k 2 (by decide), s5 k 3 (by decide)]
    have x1 := bV k
    have x2 := s6 k
    omega
  obtain ⟨q1, q2, q3, q4, q5, q6⟩ := charge_all b1 s4
  generalize f_X3_chargeBatteries T1 = T2 at q1 q2 q3 q4 q5 q6
  obtain ⟨u1, u2, u3, u4, u5⟩ := burn_all T2
  generalize itr f_X1_burnFuel 3 T2 = T3 at u1 u2 u3 u4 u5
  obtain ⟨w1, w2, w3, w4, w5⟩ := wear_all T3
  generalize itr f_X0_wearOut 3 T3 = T at w1 w2 w3 w4 w5
  have fL : T.2.1 = T1.2.1 := w2.trans (u2.trans q2)
  have f1 : T.1 = T2.1 := w1.trans u1
  have fG0 : ∀ j, T.2.2.2 j 0 = S.2.2.2 j 0 := fun j => by rw [w3, u4, q3 j 0 (by decide), s3 j 0 (by decide), vG0]
  have fGz : ∀ j, n.2.2 ≤ j → T.2.2.2 j 3 = 0 ∧ T.2.2.2 j 4 = 0 := fun j hj => by
    rw [w3]
    exact u5 j (by rw [q3 j 3 (by decide), s3 j 3 (by decide)]; exact (vGz j hj).1) (by rw [q3 j 4 (by decide), s3 j 4 (by decide)]; exact (vGz j hj).2)
  have tb : ∀ j z, z ≠ 0 → T.2.2.1 j z = T2.2.2.1 j z := fun j z hz => by rw [w4 j z hz, u3]
  have t20 : ∀ j, T2.2.2.1 j 0 = S.2.2.1 j 0 := fun j => by rw [q4 j 0 (by decide), s5 j 0 (by decide), vB j 0 (by decide)]
  have ch2 : ∀ j, 0 ≤ (T2.2.2.1 j 1).toInt ∧ (T2.2.2.1 j 1).toInt ≤ (S.2.2.1 j 0).toInt := fun j => by
    have x1 := q5 j
    have x2 := s6 j
    rw [s5 j 0 (by decide), vB j 0 (by decide)] at x1
    omega
  have one1 := i_1
  have cap : ∀ j, (T.2.2.1 j 1).toInt ≤ (T.2.2.1 j 0).toInt ∧ (T.2.2.1 j 0).toInt ≤ (S.2.2.1 j 0).toInt ∧ ((S.2.2.1 j 0).toInt ≤ 1 → T.2.2.1 j 0 = S.2.2.1 j 0) ∧ (1 ≤ (S.2.2.1 j 0).toInt → 1 ≤ (T.2.2.1 j 0).toInt) := fun j => by
    have x1 := ch2 j
    have x3 := (hB j).1
    rw [tb j 1 (by decide)]
    rcases w5 j with e | ⟨a, b, e⟩
    · rw [e, u3, t20]
      exact ⟨x1.2, Int.le_refl _, fun _ => rfl, fun y => y⟩
    · rw [u3] at a b e
      rw [t20] at b e
      rw [i_le, one1] at b
      have e9 : (S.2.2.1 j 0 - 1).toInt = (S.2.2.1 j 0).toInt - 1 := by rw [i_sub (by omega) (by omega), one1]
      rw [e, e9, a, i_0]
      exact ⟨by omega, by omega, fun y => absurd y b, fun _ => by omega⟩
  have L3 : ∀ j, T.2.1 j 3 = V.2.1 j 3 := fun j => by rw [fL]; exact s2.1 j 3 (by decide) (by decide)
  have L2 : ∀ j, T.2.1 j 2 = S.2.1 j 2 := fun j => by rw [fL, s2.1 j 2 (by decide) (by decide), vL j 2 (by decide)]
  have srdS : ∀ j, 0 ≤ (srd (stf V) (pwf V) j).toInt ∧ (srd (stf V) (pwf V) j).toInt ≤ 500 := fun j => srd_bd pV j
  have hdem : dem T = dem V := sm_congr (fun j _ => by
    show (if T.2.1 j 3 = 1 then T.2.1 j 2 else 0) = (if V.2.1 j 3 = 1 then V.2.1 j 2 else 0)
    rw [L3, L2, vL j 2 (by decide)])
  have f12 : T.1 12 = T1.1 12 := by rw [f1]; exact q1 12 (by decide)
  have f13 : T.1 13 = T1.1 13 := by rw [f1]; exact q1 13 (by decide)
  have f14 : T.1 14 = T1.1 14 := by rw [f1]; exact q1 14 (by decide)
  have F : ∀ j, j ≠ 7 → j ≠ 8 → j ≠ 11 → j ≠ 12 → j ≠ 13 → j ≠ 14 → j ≠ 15 → T.1 j = S.1 j := fun j p1 p2 p3 p4 p5 p6 p7 => by
    rw [f1, q1 j p7, s1 j p4 p5 p6, v1 j p1 p2 p3]
  have o12 : V.1 12 = S.1 12 := v1 12 (by decide) (by decide) (by decide)
  have o13 : V.1 13 = S.1 13 := v1 13 (by decide) (by decide) (by decide)
  have o14 : V.1 14 = S.1 14 := v1 14 (by decide) (by decide) (by decide)
  have o15 : T1.1 15 = S.1 15 := by rw [s1 15 (by decide) (by decide) (by decide)]; exact v1 15 (by decide) (by decide) (by decide)
  rw [e6, o12, o13, o14, ← f12, ← f13, ← f14, ← hdem] at s8
  rw [e6, o12, o13, o14, ← f12, ← f13, ← f14, ← hdem] at s9
  refine ⟨⟨⟨⟨?_, ?_, ?_⟩, hn1, hn2, hn3⟩, ?_, ?_, fun k => ?_, ⟨fun k => ?_, fun k => ⟨fun hk => ?_, fun hk => ?_⟩⟩, ⟨fun k => by rw [fG0]; exact hG k, fGz⟩, ?_, ?_⟩, vs, ?_, ?_, fun j => ?_, vup, ?_, fun j => by rw [L3]; exact vz j, ?_, ?_, ?_, fun c => (s8 c).1, fun c => s9 c⟩
  · rw [F 3 (by decide) (by decide) (by decide) (by decide) (by decide) (by decide) (by decide)]; exact c1
  · rw [F 4 (by decide) (by decide) (by decide) (by decide) (by decide) (by decide) (by decide)]; exact c2
  · rw [F 5 (by decide) (by decide) (by decide) (by decide) (by decide) (by decide) (by decide)]; exact c3
  · rw [F 6 (by decide) (by decide) (by decide) (by decide) (by decide) (by decide) (by decide)]; exact hb6
  · rw [f1, q1 7 (by decide), s1 7 (by decide) (by decide) (by decide), v7, h7, nI_succ]
  · obtain ⟨l1, l2, l3, l4, l5, l6⟩ := hL k
    have x4 : (T.2.1 k 4 = S.2.1 k 4 + srd (stf V) (pwf V) k ∧ T.2.1 k 5 = S.2.1 k 5 + (if V.2.1 k 3 = 2 then 1 else 0)) ∨ (T.2.1 k 4 = S.2.1 k 4 ∧ T.2.1 k 5 = S.2.1 k 5) := by
      rw [fL]
      rcases Nat.lt_or_ge k 10 with z | z
      · have := s2.2.1 k z
        rw [vL k 4 (by decide), vL k 5 (by decide)] at this
        exact Or.inl this
      · have := s2.2.2 k z
        rw [vL k 4 (by decide), vL k 5 (by decide)] at this
        exact Or.inr this
    have hs := srdS k
    have ht1 : ((t + 1 : Nat) : Int) = (t : Int) + 1 := by omega
    refine ⟨by rw [L3]; exact v3 k, by rw [L2]; exact l2, fun hk => by rw [L2]; exact l3 hk, fun hk => ?_, ?_, ?_⟩
    · obtain ⟨y1, y2⟩ := l4 hk
      have y3 := (vz k).mp y1
      refine ⟨by rw [L3]; exact y3, ?_⟩
      rcases x4 with x4 | x4
      · rw [x4.1, y2]
        unfold srd
        rw [if_neg (show ¬ stf V k = 1 from fun y => z_ne1 (y3.symm.trans y)), i_add0]
      · rw [x4.1, y2]
    · rcases x4 with x4 | x4
      · rw [x4.1, i_add (by omega)]
        omega
      · rw [x4.1]
        omega
    · rcases x4 with x4 | x4
      · rw [x4.2]
        split
        · rw [i_add (by rw [one1]; omega), one1]
          omega
        · rw [i_add0]
          omega
      · rw [x4.2]
        omega
  · have x1 := hB k
    have x2 := cap k
    have x3 := ch2 k
    rw [← tb k 1 (by decide)] at x3
    have y2 : T.2.2.1 k 2 = S.2.2.1 k 2 := by rw [tb k 2 (by decide), q4 k 2 (by decide), s5 k 2 (by decide), vB k 2 (by decide)]
    have y3 : T.2.2.1 k 3 = S.2.2.1 k 3 := by rw [tb k 3 (by decide), q4 k 3 (by decide), s5 k 3 (by decide), vB k 3 (by decide)]
    rw [y2, y3]
    exact ⟨⟨x3.1, x2.1, by omega⟩, x1.2⟩
  · exact (cap k).2.2.2 ((hB0 k).1 hk)
  · obtain ⟨y0, -⟩ := (hB0 k).2 hk
    have x3 := ch2 k
    rw [y0, i_0] at x3
    refine ⟨?_, ?_⟩
    · rw [(cap k).2.2.1 (by rw [y0, i_0]; omega)]
      exact y0
    · rw [tb k 1 (by decide), i_eq, i_0]
      omega
  · have e9 : sm (enf T) 10 = sm (enf S) 10 + dem V := sm_add (fun j hj => by
      show T.2.1 j 4 = S.2.1 j 4 + srd (stf V) (pwf V) j
      rw [fL, (s2.2.1 j hj).1, vL j 4 (by decide)])
    rw [e9, hE, ← hdem]
    by_cases c : S.1 6 = 0
    · obtain ⟨y1, y2⟩ := s9 c
      rw [y1]
      grind
    · obtain ⟨y1, y2, y3⟩ := s8 c
      rw [y1, y2, y3]
      grind
  · have e9 : sm (chf T) 3 = sm (chf T2) 3 := sm_congr (fun j _ => tb j 1 (by decide))
    have e8 : sm (chf V) 3 = sm (chf S) 3 := sm_congr (fun j _ => vB j 1 (by decide))
    rw [e9, q6, o15, f14, f1]
    rw [e8, hC, o14] at s7
    grind
  · exact F 6 (by decide) (by decide) (by decide) (by decide) (by decide) (by decide) (by decide)
  · rw [f1, q1 8 (by decide), s1 8 (by decide) (by decide) (by decide), v8]
  · rw [fL, s2.1 j 6 (by decide) (by decide), vL j 6 (by decide)]
  · rw [← v12]
    exact cnt_congr (fun j _ => by unfold ob; rw [L3])
  · rw [show cnt (ob 2 1 S T) 10 = cnt (ob 2 1 S V) 10 from cnt_congr (fun j _ => by unfold ob; rw [L3])]
    exact v21
  · rw [show cnt (ob 2 1 S T) 10 = cnt (ob 2 1 S V) 10 from cnt_congr (fun j _ => by unfold ob; rw [L3])]
    exact v21a
  · rw [show cnt (ob 2 1 S T) 10 = cnt (ob 2 1 S V) 10 from cnt_congr (fun j _ => by unfold ob; rw [L3])]
    exact v21b
/-- some minutes -/
theorem pass_h {n : Nat × Nat × Nat} {f : Int32} {m : Nat} : ∀ (q k t : Nat) (S : CS) (v : Int32), k ≤ m → m < k + q → t + (m - k) ≤ 2000 → JI n t f S → ∃ (w : Int32) (T : CS), f_X3_pass_h25 m q k S v = (w, T) ∧ JI n (t + (m - k)) f T ∧ T.1 6 = S.1 6 := by
  intro q
  induction q with
  | zero => intro k t S v h1 h2; omega
  | succ q ih =>
    intro k t S v h1 h2 h3 h
    rw [f_X3_pass_h25]
    by_cases hk : m ≤ k
    · rw [if_pos hk]
      refine ⟨v, S, rfl, ?_, rfl⟩
      rw [show t + (m - k) = t by omega]
      exact h
    · rw [if_neg hk]
      obtain ⟨s, T, e, hT, hM⟩ := minute h (by omega)
      unfold f_X3_pass_c32
      rw [e]
      obtain ⟨w, U, e2, hU, h6⟩ := ih (k + 1) (t + 1) T (v + nI s) (by omega) (by omega) (by omega) hT
      refine ⟨w, U, e2, ?_, h6.trans hM.2.1⟩
      rw [show t + (m - k) = t + 1 + (m - (k + 1)) by omega]
      exact hU
theorem pass_all {n : Nat × Nat × Nat} {f : Int32} {m t : Nat} {S : CS} (ht : t + m ≤ 2000) (h : JI n t f S) : JI n (t + m) f (f_X3_pass m S).2 ∧ (f_X3_pass m S).2.1 6 = S.1 6 := by
  obtain ⟨w, T, e, hT, h6⟩ := pass_h (m := m) (m + 1) 0 t S 0 (Nat.zero_le _) (by omega) (by omega) h
  unfold f_X3_pass
  rw [e]
  exact ⟨hT, h6⟩
theorem pass_one {n : Nat × Nat × Nat} {f : Int32} {t : Nat} {S : CS} (ht : t ≤ 2000) (h : JI n t f S) : ∃ s : Nat, (f_X3_pass 1 S).1 = nI s ∧ JI n (t + 1) f (f_X3_pass 1 S).2 ∧ MF n S (f_X3_pass 1 S).2 s := by
  obtain ⟨s, T, e, hT, hM⟩ := minute h ht
  have e9 : f_X3_pass 1 S = (0 + nI s, T) := by
    unfold f_X3_pass
    rw [f_X3_pass_h25, if_neg (by omega), e]
    unfold f_X3_pass_c32
    rw [f_X3_pass_h25, if_pos (by omega)]
  rw [e9, r_0add]
  exact ⟨s, rfl, hT, hM⟩
