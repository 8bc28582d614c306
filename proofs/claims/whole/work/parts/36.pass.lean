/-! ===== passing: the model's word 'thrown' stays through a minute; minutes one after the other ===== -/
section PS
variable {n : Nat × Nat × Nat} {d : Nat → Int32} {S : CS} {M : MS}
def sm1 (A B : MS) : Prop := A.1 = B.1
theorem sm1_a (k : Nat) (A : MS) : sm1 (f_X4_beginsToStart n k A) A := by
  simp only [f_X4_beginsToStart, f_X4_beginsToStart_b22, f_X4_beginsToStart_b23, f_X4_beginsToStart_b58, f_X4_beginsToStart_b59, f_X4_beginsToStart_b77, f_X4_beginsToStart_b103]
  repeat' split
  all_goals exact rfl
theorem sm1_b (k : Nat) (A : MS) : sm1 (f_X4_goesOnStarting n k A) A := by
  simp only [f_X4_goesOnStarting, f_X4_goesOnStarting_b70, f_X4_goesOnStarting_c74, f_X4_goesOnStarting_b94, f_X4_stops]
  repeat' split
  all_goals exact rfl
theorem sm1_c (k : Nat) (A : MS) : sm1 (f_X4_goesOnRunning n k A) A := by
  simp only [f_X4_goesOnRunning, f_X4_goesOnRunning_b26, f_X4_goesOnRunning_b68, f_X4_goesOnRunning_b89, f_X4_goesOnRunning_c62, f_X4_goesOnRunning_c86, f_X4_stops]
  repeat' split
  all_goals exact rfl
theorem mvM_1 (k : Nat) (M : MS) : (mvM n k M).1 = M.1 := by
  have e1 : (f_X4_beginsToStart n k (muA M 20 k 0)).1 = M.1 := sm1_a k (muA M 20 k 0)
  have e2 : (f_X4_goesOnStarting n k (muA M 20 k 0)).1 = M.1 := sm1_b k (muA M 20 k 0)
  have e3 : (f_X4_goesOnRunning n k (muA M 20 k 0)).1 = M.1 := sm1_c k (muA M 20 k 0)
  unfold mvM
  by_cases c1 : (muA M 20 k 0).2 16 k = 0
  · rw [if_pos c1]; exact e1
  · rw [if_neg c1]
    by_cases c2 : (muA M 20 k 0).2 16 k = 1
    · rw [if_pos c2]; exact e2
    · rw [if_neg c2]; exact e3
theorem weM_1 (k : Nat) (M : MS) : (weM n k M).1 = M.1 := by
  unfold weM f_X4_stops
  simp only [apply_ite Prod.fst, rdA1, ite_self]
theorem itr_1 {st : Nat → MS → MS} (h : ∀ k M, (st k M).1 = M.1) (B : Nat) (M : MS) : (itr st B M).1 = M.1 :=
  itP (P := fun _ (s : MS) => s.1 = M.1) (st := st) (B := B) (S := M) (fun k s _ hs => (h k s).trans hs) rfl
theorem sheds_1 (c : Int32) : ∀ (q : Nat) (M : MS) (v : Int32), (f_X4_sheds_h16 n q M v c).2.1 = M.1 := by
  intro q
  induction q with
  | zero => intro M v; rfl
  | succ q ih =>
    intro M v
    rw [f_X4_sheds_h16, needed_eq]
    unfold f_X4_sheds_c24 f_X4_sheds_b50
    by_cases c1 : M.1 2 = 0
    · rw [if_pos c1]
      by_cases c2 : sm (srd (M.2 3) (M.2 2)) n.1 ≤ c
      · rw [if_pos c2]
      · rw [if_neg c2]
        dsimp only
        rw [inOrder_gen]
        unfold f_X4_sheds_c39
        exact ih _ _
    · rw [if_neg c1]
theorem sheds_all1 (M : MS) : (f_X4_sheds n M).2.1 = M.1 := by
  unfold f_X4_sheds f_X4_sheds_c3
  rw [fGN_eq]
  dsimp only
  rw [fBN_eq]
  exact sheds_1 _ _ _ _
theorem ret_0 (M : MS) : (f_X4_returns n M).1 0 = M.1 0 := by
  unfold f_X4_returns
  rw [inOrder_gen]
  unfold f_X4_returns_c4 f_X4_returns_b32 f_X4_returns_b37 f_X4_returns_b87
  dsimp only
  rw [needed_eq]
  unfold f_X4_returns_c55
  dsimp only
  rw [fGN_eq]
  unfold f_X4_returns_c66 f_X4_returns_b72 f_X4_returns_b87
  dsimp only
  repeat' split
  all_goals rfl
theorem serves_0 (M : MS) : (f_X4_serves n M).1 0 = M.1 0 := by
  unfold f_X4_serves f_X4_serves_c1
  rw [needed_eq]
  dsimp only
  rw [svM_lp]
  have e1 : (itr svM n.1 M).1 = M.1 := itr_1 (st := svM) (fun _ _ => rfl) _ _
  generalize itr svM n.1 M = M1 at e1 ⊢
  dsimp only
  by_cases c : M1.1 2 = 0
  · rw [if_pos c]
    unfold f_X4_serves_c94
    rw [dbM_lp]
    have e2 := (takes_1 n (sm (srd (M.2 3) (M.2 2)) n.1) M1).1
    generalize f_X4_takes n (sm (srd (M.2 3) (M.2 2)) n.1) M1 = p at e2 ⊢
    have e3 := itP (P := fun _ (s : MS × Int32) => s.1.1 0 = M.1 0) (st := dbM) (B := n.2.1) (S := (muS p.2 37 (p.2.1 37 + p.1), sm (srd (M.2 3) (M.2 2)) n.1 - p.1)) (fun k s _ hs => by
      unfold dbM
      dsimp only
      rw [rdS, if_neg (by decide)]
      exact hs) (by
      show (muS p.2 37 (p.2.1 37 + p.1)).1 0 = _
      rw [rdS, if_neg (by decide), e2, e1])
    exact e3
  · rw [if_neg c, rdS, if_neg (by decide), e1]
theorem charges_0 (M : MS) : (f_X4_charges n M).1 0 = M.1 0 := by
  rw [chM_lp]
  refine itP (P := fun _ (s : MS) => s.1 0 = M.1 0) (st := chM n) (B := n.2.1) (S := M) (fun k s _ hs => ?_) rfl
  unfold chM
  have e2 := (takes_1 n (mn (s.2 9 k) (s.2 6 k - s.2 7 k)) s).1
  split
  · rw [rdS, if_neg (by decide)]
    show (f_X4_takes n (mn (s.2 9 k) (s.2 6 k - s.2 7 k)) s).2.1 0 = _
    rw [e2]
    exact hs
  · rw [rdS, if_neg (by decide)]
    exact hs
theorem wears_1 (M : MS) : (f_X4_wears n M).1 = M.1 := by
  rw [weM_lp, wrM_lp, itr_1 (st := wrM) (fun _ _ => rfl), itr_1 weM_1]
theorem end_0 (M : MS) (v : Int32) : (f_X4_minute_b135 n M v).2.1 0 = M.1 0 := by
  unfold f_X4_minute_b135 f_X4_minute_c136 f_X4_minute_c140 f_X4_minute_c144
  dsimp only
  rw [wears_1, charges_0, serves_0]
theorem minute_0 (M : MS) : (f_X4_minute n M).2.1 0 = M.1 0 := by
  have main : ∀ v, (f_X4_minute_b28 n (muS M 1 (M.1 1 + 1)) v).2.1 0 = M.1 0 := by
    intro v
    unfold f_X4_minute_b28
    rw [ahR_lp, mvM_lp]
    have e1 : (itr ahR n.2.1 (muS (muS M 1 (M.1 1 + 1)) 3 v)).1 = (muS (muS M 1 (M.1 1 + 1)) 3 v).1 := itr_1 (st := ahR) (fun _ _ => rfl) _ _
    have e2 : (itr (mvM n) n.2.2 (itr ahR n.2.1 (muS (muS M 1 (M.1 1 + 1)) 3 v))).1 0 = M.1 0 := by
      rw [itr_1 mvM_1, e1, rdS, if_neg (by decide), rdS, if_neg (by decide)]
    generalize itr (mvM n) n.2.2 (itr ahR n.2.1 (muS (muS M 1 (M.1 1 + 1)) 3 v)) = M2 at e2 ⊢
    have e3 := sheds_all1 (n := n) M2
    unfold f_X4_minute_c123 f_X4_minute_c132
    split
    · rw [end_0, ret_0, e3, e2]
    · rw [end_0, e3, e2]
  unfold f_X4_minute
  split
  · exact main _
  · exact main _
theorem pass_h {x : Int32} {m : Nat} (hx : x = nI m) (hm : m ≤ 500) : ∀ (q k : Nat) (S : CS) (M : MS) (v : Int32), k ≤ m → m < k + q → Iv n (d01 0) S M → M.1 0 = 0 →
    ∃ S2 M2 w, f_X3_pass_h25 x q k S v = Sum.inl (w, S2) ∧ f_X4_pass_h24 n x q k M v = (w, M2) ∧ Iv n (d01 0) S2 M2 ∧ M2.1 0 = 0 := by
  intro q
  induction q with
  | zero => intro k S M v h1 h2; omega
  | succ q ih =>
    intro k S M v h1 h2 h h0
    rw [f_X3_pass_h25, f_X4_pass_h24]
    by_cases c : m ≤ k
    · have c9 : x ≤ nI k := by rw [hx]; exact nI_le c (by omega)
      rw [if_pos c9, if_pos c9]
      exact ⟨S, M, v, rfl, rfl, h, h0⟩
    · have c9 : ¬ x ≤ nI k := by
        rw [hx]
        intro z
        exact c ((nI_leI (by omega) (by omega)).mp z)
      rw [if_neg c9, if_neg c9, if_pos h0]
      unfold f_X3_pass_c32 f_X4_pass_c38
      obtain ⟨e1, e2⟩ := minute_R h
      rw [e1]
      exact ih (k + 1) _ _ _ (by omega) (by omega) e2 (by rw [minute_0, h0])
theorem a_pass (h : Iv n dd S M) (x : Int32) : Ag n r01 (fun u => u = 0) (f_X3_pass x S) (f_X4_pass n x M).1 (f_X4_pass n x M).2 := by
  unfold f_X3_pass f_X3_pass_c5 f_X4_pass f_X4_pass_c6 f_X4_pass_b17
  by_cases c : 1 ≤ x ∧ x ≤ 500
  · rw [isO_i c, in_i c]
    dsimp only
    rw [if_pos rfl, if_neg (show ¬ (1 : Int32) = 0 from by decide)]
    have hb := c1_i (a := 1) (b := 500) (by decide) (by decide) c
    obtain ⟨m, hm, hx⟩ := nI_of2 (x := x) (M := 500) (n := 500) (by decide) (by rw [i_lt, i_0]; omega) c.2
    have ex : x.toNatClampNeg = m := by rw [hx]; exact nI_clamp (by omega)
    obtain ⟨S2, M2, w, e1, e2, e3, e4⟩ := pass_h (n := n) hx hm (x.toNatClampNeg + 1) 0 S (muS M 0 0) 0 (by omega) (by omega) (I_th h) th_s
    rw [e1, e2]
    exact Or.inl ⟨w, S2, rfl, e4, rfl, e3⟩
  · rw [isO_o c, in_o c]
    dsimp only
    rw [if_neg (show ¬ (1 : Int32) = 0 from by decide), if_pos (show (0 : Int32) = 0 from rfl)]
    have e : f_X4_pass_h24 n x (x.toNatClampNeg + 1) 0 (muS M 0 1) 0 = (0, muS M 0 1) := by
      rw [f_X4_pass_h24]
      unfold f_X4_pass_b49
      split
      · rfl
      · rw [if_neg (by rw [th_s]; decide)]
    rw [e]
    exact ag_no h rfl rfl (by decide)
theorem itM_R (h : Iv n dd S M) : ∀ j, ∃ S2, Iv n dd S2 (itM n j M) := by
  intro j
  induction j with
  | zero => exact ⟨S, h⟩
  | succ j ih =>
    obtain ⟨S2, h2⟩ := ih
    exact ⟨_, (minute_R h2).2⟩
theorem pass_ok (h : Iv n dd S M) (x : Int32) : ∀ j, j < x.toNatClampNeg → MInv n (itM n j (muS M 0 0)) := fun j _ => by
  obtain ⟨S2, h2⟩ := itM_R (I_th (v := 0) h) j
  exact h2.minv
end PS
