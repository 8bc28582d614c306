/-! ===== the other calls keep what holds ===== -/
section ST
variable {n : Nat × Nat × Nat} {t : Nat} {f : Int32} {S : CS}
theorem JI_M {k : Nat} {v : Int32} (hk : k = 9 ∨ k = 10) (h : JI n t f S) : JI n t f (cuM S k v) := by
  obtain ⟨⟨⟨c1, c2, c3⟩, hn⟩, hb6, h7, hL, hB, hG, hE, hC⟩ := h
  have r : ∀ j, j ≠ 9 → j ≠ 10 → (cuM S k v).1 j = S.1 j := fun j a b => by rw [rdM, if_neg (by omega)]
  refine ⟨⟨⟨?_, ?_, ?_⟩, hn⟩, ?_, ?_, hL, hB, hG, ?_, ?_⟩
  · rw [r 3 (by decide) (by decide)]; exact c1
  · rw [r 4 (by decide) (by decide)]; exact c2
  · rw [r 5 (by decide) (by decide)]; exact c3
  · rw [r 6 (by decide) (by decide)]; exact hb6
  · rw [r 7 (by decide) (by decide)]; exact h7
  · rw [r 12 (by decide) (by decide), r 13 (by decide) (by decide), r 14 (by decide) (by decide)]; exact hE
  · rw [r 14 (by decide) (by decide), r 15 (by decide) (by decide)]; exact hC
theorem JI_M6 {v : Int32} (hv : isB v) (h : JI n t f S) : JI n t f (cuM S 6 v) := by
  obtain ⟨⟨⟨c1, c2, c3⟩, hn⟩, hb6, h7, hL, hB, hG, hE, hC⟩ := h
  have r : ∀ j, j ≠ 6 → (cuM S 6 v).1 j = S.1 j := fun j a => by rw [rdM, if_neg a]
  refine ⟨⟨⟨?_, ?_, ?_⟩, hn⟩, ?_, ?_, hL, hB, hG, ?_, ?_⟩
  · rw [r 3 (by decide)]; exact c1
  · rw [r 4 (by decide)]; exact c2
  · rw [r 5 (by decide)]; exact c3
  · rw [rdM, if_pos rfl]; exact hv
  · rw [r 7 (by decide)]; exact h7
  · rw [r 12 (by decide), r 13 (by decide), r 14 (by decide)]; exact hE
  · rw [r 14 (by decide), r 15 (by decide)]; exact hC
theorem JI_st {k : Nat} {v : Int32} (hk : k < n.1) (hv : v = 0 ∨ v = 1 ∨ v = 2) (h : JI n t f S) : JI n t f (cuL S k 3 v) := by
  obtain ⟨hJ, hb6, h7, hL, hB, hG, hE, hC⟩ := h
  have r : ∀ j z, z ≠ 3 → (cuL S k 3 v).2.1 j z = S.2.1 j z := fun j z a => by rw [rdL, if_neg (fun y => a y.2)]
  refine ⟨hJ, hb6, h7, fun j => ?_, hB, hG, ?_, hC⟩
  · rw [r j 2 (by decide), r j 4 (by decide), r j 5 (by decide)]
    obtain ⟨l1, l2, l3, l4, l5⟩ := hL j
    refine ⟨?_, l2, l3, fun hj => ⟨?_, (l4 hj).2⟩, l5⟩
    · rw [rdL]
      split
      · exact hv
      · exact l1
    · rw [rdL, if_neg (by omega)]
      exact (l4 hj).1
  · rw [show sm (enf (cuL S k 3 v)) 10 = sm (enf S) 10 from sm_congr (fun j _ => r j 4 (by decide))]
    exact hE
theorem JI_pw {k : Nat} {v : Int32} (hk : k < n.1) (hv : 1 ≤ v.toInt ∧ v.toInt ≤ 500) (h : JI n t f S) : JI n t f (cuL S k 2 v) := by
  obtain ⟨hJ, hb6, h7, hL, hB, hG, hE, hC⟩ := h
  have r : ∀ j z, z ≠ 2 → (cuL S k 2 v).2.1 j z = S.2.1 j z := fun j z a => by rw [rdL, if_neg (fun y => a y.2)]
  refine ⟨hJ, hb6, h7, fun j => ?_, hB, hG, ?_, hC⟩
  · rw [r j 3 (by decide), r j 4 (by decide), r j 5 (by decide)]
    obtain ⟨l1, l2, l3, l4, l5⟩ := hL j
    refine ⟨l1, ?_, fun hj => ?_, l4, l5⟩
    · rw [rdL]
      split
      · omega
      · exact l2
    · rw [rdL]
      split
      · omega
      · exact l3 hj
  · rw [show sm (enf (cuL S k 2 v)) 10 = sm (enf S) 10 from sm_congr (fun j _ => r j 4 (by decide))]
    exact hE
theorem JI_hd {k : Nat} {v : Int32} (h : JI n t f S) : JI n t f (cuL S k 6 v) := by
  obtain ⟨hJ, hb6, h7, hL, hB, hG, hE, hC⟩ := h
  have r : ∀ j z, z ≠ 6 → (cuL S k 6 v).2.1 j z = S.2.1 j z := fun j z a => by rw [rdL, if_neg (fun y => a y.2)]
  refine ⟨hJ, hb6, h7, fun j => ?_, hB, hG, ?_, hC⟩
  · rw [r j 3 (by decide), r j 2 (by decide), r j 4 (by decide), r j 5 (by decide)]
    exact hL j
  · rw [show sm (enf (cuL S k 6 v)) 10 = sm (enf S) 10 from sm_congr (fun j _ => r j 4 (by decide))]
    exact hE
theorem JI_g {k z : Nat} {v : Int32} (hk : k < n.2.2) (hz : z ≠ 0) (h : JI n t f S) : JI n t f (cuG S k z v) := by
  obtain ⟨hJ, hb6, h7, hL, hB, ⟨hG, hG0⟩, hE, hC⟩ := h
  refine ⟨hJ, hb6, h7, hL, hB, ⟨fun j => ?_, fun j hj => ?_⟩, hE, hC⟩
  · rw [rdG, if_neg (fun y => hz y.2.symm)]
    exact hG j
  · rw [rdG, rdG, if_neg (by omega), if_neg (by omega)]
    exact hG0 j hj
theorem sw_all {k : Nat} {x : Int32} (hk : k < n.1) (h : JI n t f S) : (f_X3_switchLoad k x S).1 = (if x = 0 then 0 else if S.2.1 k 3 = 0 then 2 else S.2.1 k 3) ∧ JI n t f (f_X3_switchLoad k x S).2 ∧ (f_X3_switchLoad k x S).2.1 6 = S.1 6 := by
  unfold f_X3_switchLoad f_X3_switchLoad_b30
  by_cases c : x = 0
  · rw [if_pos c, if_pos c]
    exact ⟨by show (cuL S k 3 0).2.1 k 3 = _; rw [rdL, if_pos ⟨rfl, rfl⟩], JI_st hk (Or.inl rfl) h, rfl⟩
  · rw [if_neg c, if_neg c]
    by_cases c2 : S.2.1 k 3 = 0
    · rw [if_pos c2, if_pos c2]
      exact ⟨by show (cuL S k 3 2).2.1 k 3 = _; rw [rdL, if_pos ⟨rfl, rfl⟩], JI_st hk (Or.inr (Or.inr rfl)) h, rfl⟩
    · rw [if_neg c2, if_neg c2]
      exact ⟨rfl, h, rfl⟩
theorem rf_all {k : Nat} {x : Int32} (hk : k < n.2.2) (h : JI n t f S) : JI n t f (f_X3_refuel k x S).2 ∧ (f_X3_refuel k x S).2.1 6 = S.1 6 := ⟨JI_g hk (by decide) h, rfl⟩
theorem al_all {x y : Int32} (hk : n.1 < 10) (hy : 1 ≤ y.toInt ∧ y.toInt ≤ 500) (h : JI n t f S) : JI (n.1 + 1, n.2.1, n.2.2) t f (f_X3_addLoad x y S).2 ∧ (f_X3_addLoad x y S).2.1 6 = S.1 6 := by
  obtain ⟨⟨⟨c1, c2, c3⟩, hn1, hn2, hn3⟩, hb6, h7, hL, hB, hG, hE, hC⟩ := h
  have key : ∀ v : Int32, (v = 1 ∨ v = 2) → JI (n.1 + 1, n.2.1, n.2.2) t f (f_X3_addLoad_b75 x y S ((S.1 3).toNatClampNeg) v).2 ∧ (f_X3_addLoad_b75 x y S ((S.1 3).toNatClampNeg) v).2.1 6 = S.1 6 := by
    intro v hv
    unfold f_X3_addLoad_b75 f_X3_addLoad_c75 f_X2_install
    rw [c1, nI_cl hk (by decide)]
    have r1 : ∀ j, (cuM (cuL (cuL (cuL S n.1 1 x) n.1 2 y) n.1 3 v) 3 ((cuL (cuL (cuL S n.1 1 x) n.1 2 y) n.1 3 v).1 3 + 1)).1 j = if j = 3 then S.1 3 + 1 else S.1 j := fun j => rdM
    have rL : ∀ j z, (cuM (cuL (cuL (cuL S n.1 1 x) n.1 2 y) n.1 3 v) 3 ((cuL (cuL (cuL S n.1 1 x) n.1 2 y) n.1 3 v).1 3 + 1)).2.1 j z = if j = n.1 ∧ z = 3 then v else if j = n.1 ∧ z = 2 then y else if j = n.1 ∧ z = 1 then x else S.2.1 j z := fun j z => by
      show (cuL (cuL (cuL S n.1 1 x) n.1 2 y) n.1 3 v).2.1 j z = _
      rw [rdL, rdL, rdL]
    have r4 : ∀ j, (cuM (cuL (cuL (cuL S n.1 1 x) n.1 2 y) n.1 3 v) 3 ((cuL (cuL (cuL S n.1 1 x) n.1 2 y) n.1 3 v).1 3 + 1)).2.1 j 4 = S.2.1 j 4 := fun j => by rw [rL, if_neg (by omega), if_neg (by omega), if_neg (by omega)]
    have r5 : ∀ j, (cuM (cuL (cuL (cuL S n.1 1 x) n.1 2 y) n.1 3 v) 3 ((cuL (cuL (cuL S n.1 1 x) n.1 2 y) n.1 3 v).1 3 + 1)).2.1 j 5 = S.2.1 j 5 := fun j => by rw [rL, if_neg (by omega), if_neg (by omega), if_neg (by omega)]
    refine ⟨⟨⟨⟨?_, ?_, ?_⟩, by show n.1 + 1 ≤ 10; omega, hn2, hn3⟩, ?_, ?_, fun j => ?_, hB, hG, ?_, ?_⟩, ?_⟩
    · dsimp only
      rw [r1, if_pos rfl, c1, nI_succ]
    · dsimp only
      rw [r1, if_neg (by decide)]; exact c2
    · dsimp only
      rw [r1, if_neg (by decide)]; exact c3
    · dsimp only
      rw [r1, if_neg (by decide)]; exact hb6
    · dsimp only
      rw [r1, if_neg (by decide)]; exact h7
    · dsimp only
      rw [r4, r5, rL, rL]
      obtain ⟨l1, l2, l3, l4, l5⟩ := hL j
      by_cases e : j = n.1
      · subst e
        rw [if_pos ⟨rfl, rfl⟩, if_neg (by omega), if_pos ⟨rfl, rfl⟩]
        refine ⟨Or.inr hv, by omega, fun _ => hy.1, fun z => ?_, l5⟩
        omega
      · rw [if_neg (by omega), if_neg (by omega), if_neg (by omega), if_neg (by omega), if_neg (by omega), if_neg (by omega)]
        exact ⟨l1, l2, fun z => l3 (by omega), fun z => l4 (by omega), l5⟩
    · dsimp only
      rw [r1, r1, r1, if_neg (by decide), if_neg (by decide), if_neg (by decide)]
      exact (sm_congr (fun j _ => r4 j)).trans hE
    · dsimp only
      rw [r1, r1, if_neg (by decide), if_neg (by decide)]
      exact hC
    · dsimp only
      rw [r1, if_neg (by decide)]
  unfold f_X3_addLoad
  split
  · exact key 2 (Or.inr rfl)
  · exact key 1 (Or.inl rfl)
theorem ab_all {x y z : Int32} (hk : n.2.1 < 3) (hx : 1 ≤ x.toInt ∧ x.toInt ≤ 20000) (hy : 1 ≤ y.toInt ∧ y.toInt ≤ 500) (hz : 1 ≤ z.toInt ∧ z.toInt ≤ 500) (h : JI n t f S) : JI (n.1, n.2.1 + 1, n.2.2) t (f + x) (f_X3_addBattery x y z S).2 ∧ (f_X3_addBattery x y z S).2.1 6 = S.1 6 := by
  obtain ⟨⟨⟨c1, c2, c3⟩, hn1, hn2, hn3⟩, hb6, h7, hL, ⟨hB, hB0⟩, hG, hE, hC⟩ := h
  unfold f_X3_addBattery f_X3_addBattery_c77 f_X0_install
  rw [c2, nI_cl hk (by decide)]
  have r1 : ∀ j, (cuM (cuB (cuB (cuB (cuB S n.2.1 0 x) n.2.1 1 x) n.2.1 2 y) n.2.1 3 z) 4 ((cuB (cuB (cuB (cuB S n.2.1 0 x) n.2.1 1 x) n.2.1 2 y) n.2.1 3 z).1 4 + 1)).1 j = if j = 4 then S.1 4 + 1 else S.1 j := fun j => rdM
  have rB : ∀ j w, (cuM (cuB (cuB (cuB (cuB S n.2.1 0 x) n.2.1 1 x) n.2.1 2 y) n.2.1 3 z) 4 ((cuB (cuB (cuB (cuB S n.2.1 0 x) n.2.1 1 x) n.2.1 2 y) n.2.1 3 z).1 4 + 1)).2.2.1 j w = if j = n.2.1 ∧ w = 3 then z else if j = n.2.1 ∧ w = 2 then y else if j = n.2.1 ∧ w = 1 then x else if j = n.2.1 ∧ w = 0 then x else S.2.2.1 j w := fun j w => by
    show (cuB (cuB (cuB (cuB S n.2.1 0 x) n.2.1 1 x) n.2.1 2 y) n.2.1 3 z).2.2.1 j w = _
    rw [rdB, rdB, rdB, rdB]
  have rL : (cuM (cuB (cuB (cuB (cuB S n.2.1 0 x) n.2.1 1 x) n.2.1 2 y) n.2.1 3 z) 4 ((cuB (cuB (cuB (cuB S n.2.1 0 x) n.2.1 1 x) n.2.1 2 y) n.2.1 3 z).1 4 + 1)).2.1 = S.2.1 := rfl
  have rG : (cuM (cuB (cuB (cuB (cuB S n.2.1 0 x) n.2.1 1 x) n.2.1 2 y) n.2.1 3 z) 4 ((cuB (cuB (cuB (cuB S n.2.1 0 x) n.2.1 1 x) n.2.1 2 y) n.2.1 3 z).1 4 + 1)).2.2.2 = S.2.2.2 := rfl
  dsimp only
  generalize cuM (cuB (cuB (cuB (cuB S n.2.1 0 x) n.2.1 1 x) n.2.1 2 y) n.2.1 3 z) 4 ((cuB (cuB (cuB (cuB S n.2.1 0 x) n.2.1 1 x) n.2.1 2 y) n.2.1 3 z).1 4 + 1) = T at r1 rB rL rG
  have rc1 : ∀ j, T.2.2.1 j 1 = if j = n.2.1 then x else S.2.2.1 j 1 := fun j => by
    rw [rB, if_neg (by omega), if_neg (by omega)]
    by_cases e : j = n.2.1
    · rw [if_pos ⟨e, rfl⟩, if_pos e]
    · rw [if_neg (fun y => e y.1), if_neg (fun y => e y.1), if_neg e]
  have rc0 : ∀ j, T.2.2.1 j 0 = if j = n.2.1 then x else S.2.2.1 j 0 := fun j => by
    rw [rB, if_neg (by omega), if_neg (by omega), if_neg (by omega)]
    by_cases e : j = n.2.1
    · rw [if_pos ⟨e, rfl⟩, if_pos e]
    · rw [if_neg (fun y => e y.1), if_neg e]
  have rc2 : ∀ j, T.2.2.1 j 2 = if j = n.2.1 then y else S.2.2.1 j 2 := fun j => by
    rw [rB, if_neg (by omega)]
    by_cases e : j = n.2.1
    · rw [if_pos ⟨e, rfl⟩, if_pos e]
    · rw [if_neg (fun y => e y.1), if_neg (fun y => e y.1), if_neg (fun y => e y.1), if_neg e]
  have rc3 : ∀ j, T.2.2.1 j 3 = if j = n.2.1 then z else S.2.2.1 j 3 := fun j => by
    rw [rB]
    by_cases e : j = n.2.1
    · rw [if_pos ⟨e, rfl⟩, if_pos e]
    · rw [if_neg (fun y => e y.1), if_neg (fun y => e y.1), if_neg (fun y => e y.1), if_neg (fun y => e y.1), if_neg e]
  refine ⟨⟨⟨⟨?_, ?_, ?_⟩, hn1, by show n.2.1 + 1 ≤ 3; omega, hn3⟩, ?_, ?_, ?_, ⟨fun j => ?_, fun j => ⟨fun hj => ?_, fun hj => ?_⟩⟩, ?_, ?_, ?_⟩, ?_⟩
  · rw [r1, if_neg (by decide)]; exact c1
  · rw [r1, if_pos rfl, c2, nI_succ]
  · rw [r1, if_neg (by decide)]; exact c3
  · rw [r1, if_neg (by decide)]; exact hb6
  · rw [r1, if_neg (by decide)]; exact h7
  · unfold JL
    rw [rL]
    exact hL
  · rw [rc0, rc1, rc2, rc3]
    by_cases e : j = n.2.1
    · rw [if_pos e, if_pos e, if_pos e, if_pos e]
      omega
    · rw [if_neg e, if_neg e, if_neg e, if_neg e]
      exact hB j
  · rw [rc0]
    by_cases e : j = n.2.1
    · rw [if_pos e]; exact hx.1
    · rw [if_neg e]
      have hj2 : j < n.2.1 + 1 := hj
      exact (hB0 j).1 (by omega)
  · have hj2 : n.2.1 + 1 ≤ j := hj
    rw [rc0, rc1, if_neg (by omega), if_neg (by omega)]
    exact (hB0 j).2 (by omega)
  · unfold JG
    rw [rG]
    exact hG
  · rw [r1, r1, r1, if_neg (by decide), if_neg (by decide), if_neg (by decide)]
    rw [show enf T = enf S from by show (fun k => T.2.1 k 4) = _; rw [rL]]
    exact hE
  · have e9 := sm_upd (g := chf S) (g' := chf T) (j := n.2.1) (m := 3) hk (fun i _ hi => by show T.2.2.1 i 1 = S.2.2.1 i 1; rw [rc1, if_neg hi])
    have e8 : chf T n.2.1 = x := by show T.2.2.1 n.2.1 1 = x; rw [rc1, if_pos rfl]
    have e7 : chf S n.2.1 = 0 := ((hB0 n.2.1).2 (Nat.le_refl _)).2
    rw [r1, r1, if_neg (by decide), if_neg (by decide), e9, e8, e7, hC]
    grind
  · rw [r1, if_neg (by decide)]
theorem ag_all {x y z : Int32} (hk : n.2.2 < 3) (hx : 1 ≤ x.toInt ∧ x.toInt ≤ 1000) (h : JI n t f S) : JI (n.1, n.2.1, n.2.2 + 1) t f (f_X3_addGenerator x y z S).2 ∧ (f_X3_addGenerator x y z S).2.1 6 = S.1 6 := by
  obtain ⟨⟨⟨c1, c2, c3⟩, hn1, hn2, hn3⟩, hb6, h7, hL, hB, ⟨hG, hG0⟩, hE, hC⟩ := h
  unfold f_X3_addGenerator f_X3_addGenerator_c76 f_X1_install
  rw [c3, nI_cl hk (by decide)]
  have r1 : ∀ j, (cuM (cuG (cuG (cuG (cuG S n.2.2 0 x) n.2.2 1 y) n.2.2 2 z) n.2.2 3 z) 5 ((cuG (cuG (cuG (cuG S n.2.2 0 x) n.2.2 1 y) n.2.2 2 z) n.2.2 3 z).1 5 + 1)).1 j = if j = 5 then S.1 5 + 1 else S.1 j := fun j => rdM
  have rG : ∀ j w, (cuM (cuG (cuG (cuG (cuG S n.2.2 0 x) n.2.2 1 y) n.2.2 2 z) n.2.2 3 z) 5 ((cuG (cuG (cuG (cuG S n.2.2 0 x) n.2.2 1 y) n.2.2 2 z) n.2.2 3 z).1 5 + 1)).2.2.2 j w = if j = n.2.2 ∧ w = 3 then z else if j = n.2.2 ∧ w = 2 then z else if j = n.2.2 ∧ w = 1 then y else if j = n.2.2 ∧ w = 0 then x else S.2.2.2 j w := fun j w => by
    show (cuG (cuG (cuG (cuG S n.2.2 0 x) n.2.2 1 y) n.2.2 2 z) n.2.2 3 z).2.2.2 j w = _
    rw [rdG, rdG, rdG, rdG]
  have rL : (cuM (cuG (cuG (cuG (cuG S n.2.2 0 x) n.2.2 1 y) n.2.2 2 z) n.2.2 3 z) 5 ((cuG (cuG (cuG (cuG S n.2.2 0 x) n.2.2 1 y) n.2.2 2 z) n.2.2 3 z).1 5 + 1)).2.1 = S.2.1 := rfl
  have rB : (cuM (cuG (cuG (cuG (cuG S n.2.2 0 x) n.2.2 1 y) n.2.2 2 z) n.2.2 3 z) 5 ((cuG (cuG (cuG (cuG S n.2.2 0 x) n.2.2 1 y) n.2.2 2 z) n.2.2 3 z).1 5 + 1)).2.2.1 = S.2.2.1 := rfl
  dsimp only
  generalize cuM (cuG (cuG (cuG (cuG S n.2.2 0 x) n.2.2 1 y) n.2.2 2 z) n.2.2 3 z) 5 ((cuG (cuG (cuG (cuG S n.2.2 0 x) n.2.2 1 y) n.2.2 2 z) n.2.2 3 z).1 5 + 1) = T at r1 rB rL rG
  refine ⟨⟨⟨⟨?_, ?_, ?_⟩, hn1, hn2, by show n.2.2 + 1 ≤ 3; omega⟩, ?_, ?_, ?_, ?_, ⟨fun j => ?_, fun j hj => ?_⟩, ?_, ?_⟩, ?_⟩
  · rw [r1, if_neg (by decide)]; exact c1
  · rw [r1, if_neg (by decide)]; exact c2
  · rw [r1, if_pos rfl, c3, nI_succ]
  · rw [r1, if_neg (by decide)]; exact hb6
  · rw [r1, if_neg (by decide)]; exact h7
  · unfold JL
    rw [rL]
    exact hL
  · unfold JB BT
    rw [rB]
    exact hB
  · rw [rG, if_neg (by omega), if_neg (by omega), if_neg (by omega)]
    by_cases e : j = n.2.2
    · rw [if_pos ⟨e, rfl⟩]; omega
    · rw [if_neg (fun y => e y.1)]; exact hG j
  · have hj2 : n.2.2 + 1 ≤ j := hj
    rw [rG, rG, if_neg (by omega), if_neg (by omega), if_neg (by omega), if_neg (by omega), if_neg (by omega), if_neg (by omega), if_neg (by omega), if_neg (by omega)]
    exact hG0 j (by omega)
  · rw [r1, r1, r1, if_neg (by decide), if_neg (by decide), if_neg (by decide)]
    rw [show enf T = enf S from by show (fun k => T.2.1 k 4) = _; rw [rL]]
    exact hE
  · rw [r1, r1, if_neg (by decide), if_neg (by decide)]
    rw [show chf T = chf S from by show (fun k => T.2.2.1 k 1) = _; rw [rB]]
    exact hC
  · rw [r1, if_neg (by decide)]
end ST
theorem JI_0 : JI (0, 0, 0) 0 0 CS0 := by
  have z : ∀ k, CS0.2.1 k 4 = 0 := fun k => rfl
  have i1 := i_1
  refine ⟨⟨⟨rfl, rfl, rfl⟩, by decide, by decide, by decide⟩, Or.inr rfl, rfl, fun k => ⟨Or.inl rfl, ⟨by show 0 ≤ (0 : Int32).toInt; rw [i_0]; omega, by show (0 : Int32).toInt ≤ 500; rw [i_0]; omega⟩, fun hk => absurd hk (Nat.not_lt_zero k), fun _ => ⟨rfl, rfl⟩, ⟨by show 0 ≤ (0 : Int32).toInt; rw [i_0]; omega, by show (0 : Int32).toInt ≤ _; rw [i_0]; omega⟩, ⟨by show 0 ≤ (0 : Int32).toInt; rw [i_0]; omega, by show (0 : Int32).toInt ≤ _; rw [i_0]; omega⟩⟩, ⟨fun k => ?_, fun k => ⟨fun hk => absurd hk (Nat.not_lt_zero k), fun _ => ⟨rfl, rfl⟩⟩⟩, ⟨fun k => ?_, fun k _ => ⟨rfl, rfl⟩⟩, rfl, rfl⟩
  · show (0 ≤ (0 : Int32).toInt ∧ (0 : Int32).toInt ≤ (0 : Int32).toInt ∧ (0 : Int32).toInt ≤ 20000) ∧ (0 ≤ (0 : Int32).toInt ∧ (0 : Int32).toInt ≤ 500) ∧ (0 ≤ (0 : Int32).toInt ∧ (0 : Int32).toInt ≤ 500)
    rw [i_0]
    omega
  · show 0 ≤ (0 : Int32).toInt ∧ (0 : Int32).toInt ≤ 1000
    rw [i_0]
    omega
