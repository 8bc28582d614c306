/-! ===== what the model's walk of a minute asks for: sums that aren't negative, a load to shed ===== -/
def srd (st pw : Nat → Int32) (k : Nat) : Int32 := if st k = 1 then pw k else 0
theorem needed_h4 {n : Nat × Nat × Nat} {S : MS} : ∀ (q k : Nat) (v : Int32), k ≤ n.1 → n.1 < k + q → v = sm (srd (S.2 3) (S.2 2)) k → f_X4_needed_h4 n q k S v = (sm (srd (S.2 3) (S.2 2)) n.1, S) := by
  intro q
  induction q with
  | zero => intro k v h1 h2; omega
  | succ q ih =>
    intro k v h1 h2 e
    rw [f_X4_needed_h4]
    by_cases hk : n.1 ≤ k
    · have ek : k = n.1 := by omega
      subst ek
      rw [if_pos hk, e]
    · rw [if_neg hk]
      by_cases c : S.2 3 k = 1
      · rw [if_pos c]
        exact ih (k + 1) _ (by omega) (by omega) (by rw [e]; show _ = sm _ k + srd _ _ k; unfold srd; rw [if_pos c])
      · rw [if_neg c]
        exact ih (k + 1) _ (by omega) (by omega) (by rw [e]; show _ = sm _ k + srd _ _ k; unfold srd; rw [if_neg c])
theorem needed_eq (n : Nat × Nat × Nat) (S : MS) : f_X4_needed n S = (sm (srd (S.2 3) (S.2 2)) n.1, S) := needed_h4 (n.1 + 1) 0 0 (Nat.zero_le _) (by omega) rfl
theorem lesser_eq (n : Nat × Nat × Nat) (x y : Int32) (S : MS) : f_X4_lesser n x y S = (if x < y then x else y, S) := by
  unfold f_X4_lesser
  split
  · rename_i h
    rw [if_neg (by rw [i_lt]; rw [i_le] at h; omega)]
    rfl
  · rename_i h
    rw [if_pos (by rw [i_lt]; rw [i_le] at h; omega)]
    rfl
theorem gives_eq (n : Nat × Nat × Nat) (k : Nat) (S : MS) : f_X4_gives n k S = (if S.2 16 k = 2 ∧ S.2 17 k = 0 then 1 else 0, S) := by
  unfold f_X4_gives
  by_cases c1 : S.2 16 k = 2
  · by_cases c2 : S.2 17 k = 0
    · simp [c1, c2, f_X4_gives_b23, f_X4_gives_b24]
    · simp [c1, c2, f_X4_gives_b23, f_X4_gives_b24]
  · simp [c1, f_X4_gives_b23, f_X4_gives_b24]
def gvs (md ts st : Nat → Int32) (k : Nat) : Int32 := if md k = 2 ∧ ts k = 0 then st k else 0
theorem fGN_h4 {n : Nat × Nat × Nat} {S : MS} : ∀ (q k : Nat) (v : Int32), k ≤ n.2.2 → n.2.2 < k + q → v = sm (gvs (S.2 16) (S.2 17) (S.2 12)) k → f_X4_fromGeneratorsNow_h4 n q k S v = (sm (gvs (S.2 16) (S.2 17) (S.2 12)) n.2.2, S) := by
  intro q
  induction q with
  | zero => intro k v h1 h2; omega
  | succ q ih =>
    intro k v h1 h2 e
    rw [f_X4_fromGeneratorsNow_h4]
    by_cases hk : n.2.2 ≤ k
    · have ek : k = n.2.2 := by omega
      subst ek
      rw [if_pos hk, e]
    · rw [if_neg hk, gives_eq]
      by_cases c : S.2 16 k = 2 ∧ S.2 17 k = 0
      · rw [if_pos c]
        exact ih (k + 1) _ (by omega) (by omega) (by rw [e]; show _ = sm _ k + gvs _ _ _ k; unfold gvs; rw [if_pos c])
      · rw [if_neg c]
        exact ih (k + 1) _ (by omega) (by omega) (by rw [e]; show _ = sm _ k + gvs _ _ _ k; unfold gvs; rw [if_neg c])
theorem fGN_eq (n : Nat × Nat × Nat) (S : MS) : f_X4_fromGeneratorsNow n S = (sm (gvs (S.2 16) (S.2 17) (S.2 12)) n.2.2, S) := fGN_h4 (n.2.2 + 1) 0 0 (Nat.zero_le _) (by omega) rfl
def mn (x y : Int32) : Int32 := if x < y then x else y
theorem fBN_h4 {n : Nat × Nat × Nat} {r : Nat} {S : MS} : ∀ (q k : Nat) (v : Int32), k ≤ n.2.1 → n.2.1 < k + q → v = sm (fun k => mn (S.2 8 k) (S.2 r k)) k → f_X4_fromBatteriesNow_h4 n r q k S v = (sm (fun k => mn (S.2 8 k) (S.2 r k)) n.2.1, S) := by
  intro q
  induction q with
  | zero => intro k v h1 h2; omega
  | succ q ih =>
    intro k v h1 h2 e
    rw [f_X4_fromBatteriesNow_h4]
    by_cases hk : n.2.1 ≤ k
    · have ek : k = n.2.1 := by omega
      subst ek
      rw [if_pos hk, e]
    · rw [if_neg hk, lesser_eq]
      exact ih (k + 1) _ (by omega) (by omega) (by rw [e]; rfl)
theorem fBN_eq (n : Nat × Nat × Nat) (r : Nat) (S : MS) : f_X4_fromBatteriesNow n r S = (sm (fun k => mn (S.2 8 k) (S.2 r k)) n.2.1, S) := fBN_h4 (n.2.1 + 1) 0 0 (Nat.zero_le _) (by omega) rfl
theorem sm_bd {g : Nat → Int32} {m : Nat} {B : Int} (hm : m ≤ 10) (hB : 0 ≤ B ∧ B ≤ 100000) (h : ∀ k, k < m → 0 ≤ (g k).toInt ∧ (g k).toInt ≤ B) : 0 ≤ (sm g m).toInt ∧ (sm g m).toInt ≤ m * B := by
  induction m with
  | zero => exact ⟨by show 0 ≤ (0 : Int32).toInt; rw [i_0]; omega, by show (0 : Int32).toInt ≤ _; rw [i_0]; simp⟩
  | succ m ih =>
    have h1 := ih (by omega) (fun k hk => h k (by omega))
    have h2 := h m (by omega)
    have h4 : ((m : Int) + 1) * B = m * B + B := by rw [Int.add_mul, Int.one_mul]
    have h5 : (m : Int) * B ≤ 10 * 100000 := by
      have : (m : Int) * B ≤ 10 * B := Int.mul_le_mul_of_nonneg_right (by omega) hB.1
      omega
    have h3 : (sm g m + g m).toInt = (sm g m).toInt + (g m).toInt := i_add (by omega)
    refine ⟨by show 0 ≤ (sm g m + g m).toInt; omega, ?_⟩
    show (sm g m + g m).toInt ≤ ((m + 1 : Nat) : Int) * B
    rw [show ((m + 1 : Nat) : Int) = (m : Int) + 1 by omega, h4]
    omega
theorem mn_toInt (x y : Int32) : (mn x y).toInt = if x.toInt < y.toInt then x.toInt else y.toInt := by
  unfold mn
  by_cases c : x < y
  · rw [if_pos c, if_pos ((i_lt _ _).mp c)]
  · rw [if_neg c, if_neg (fun z => c ((i_lt _ _).mpr z))]
/-- what the model's rows hold, so far as shedding asks -/
def MInv (n : Nat × Nat × Nat) (S : MS) : Prop := rpOk (S.2 1) (S.2 2) n.1 ∧ (∀ k, k < n.2.1 → 0 ≤ (S.2 7 k).toInt ∧ 0 ≤ (S.2 8 k).toInt ∧ (S.2 8 k).toInt ≤ 500) ∧ ∀ k, k < n.2.2 → 0 ≤ (S.2 12 k).toInt ∧ (S.2 12 k).toInt ≤ 1000
def canM (n : Nat × Nat × Nat) (S : MS) : Int32 := sm (gvs (S.2 16) (S.2 17) (S.2 12)) n.2.2 + sm (fun k => mn (S.2 8 k) (S.2 7 k)) n.2.1
def shOk (n : Nat × Nat × Nat) (S : MS) : Prop := rpOk (S.2 1) (S.2 2) n.1 ∧ 0 ≤ (canM n S).toInt
theorem gvs_bd {md ts st : Nat → Int32} {k : Nat} (h : 0 ≤ (st k).toInt ∧ (st k).toInt ≤ 1000) : 0 ≤ (gvs md ts st k).toInt ∧ (gvs md ts st k).toInt ≤ 1000 := by
  unfold gvs
  split
  · exact h
  · rw [i_0]; omega
theorem canM_bd {n : Nat × Nat × Nat} {S : MS} (hn : n.1 ≤ 10 ∧ n.2.1 ≤ 3 ∧ n.2.2 ≤ 3) (h : MInv n S) : (canM n S).toInt = (sm (gvs (S.2 16) (S.2 17) (S.2 12)) n.2.2).toInt + (sm (fun k => mn (S.2 8 k) (S.2 7 k)) n.2.1).toInt ∧ 0 ≤ (sm (gvs (S.2 16) (S.2 17) (S.2 12)) n.2.2).toInt ∧ (sm (gvs (S.2 16) (S.2 17) (S.2 12)) n.2.2).toInt ≤ 3000 ∧ 0 ≤ (sm (fun k => mn (S.2 8 k) (S.2 7 k)) n.2.1).toInt ∧ (sm (fun k => mn (S.2 8 k) (S.2 7 k)) n.2.1).toInt ≤ 1500 := by
  obtain ⟨-, h2, h3⟩ := h
  have a := sm_bd (g := gvs (S.2 16) (S.2 17) (S.2 12)) (m := n.2.2) (B := 1000) (by omega) (by omega) (fun k hk => gvs_bd (h3 k hk))
  have b := sm_bd (g := fun k => mn (S.2 8 k) (S.2 7 k)) (m := n.2.1) (B := 500) (by omega) (by omega) (fun k hk => by
    have h4 := h2 k hk
    show 0 ≤ (mn _ _).toInt ∧ (mn _ _).toInt ≤ 500
    rw [mn_toInt]
    split <;> omega)
  have e : (canM n S).toInt = _ := i_add (x := sm (gvs (S.2 16) (S.2 17) (S.2 12)) n.2.2) (y := sm (fun k => mn (S.2 8 k) (S.2 7 k)) n.2.1) (by omega)
  exact ⟨e, a.1, by omega, b.1, by omega⟩
theorem shOk_of {n : Nat × Nat × Nat} {S : MS} (hn : n.1 ≤ 10 ∧ n.2.1 ≤ 3 ∧ n.2.2 ≤ 3) (h : MInv n S) : shOk n S := ⟨h.1, by have := canM_bd hn h; omega⟩
def srv (n : Nat × Nat × Nat) (S : MS) : Nat := cnt (fun k => decide (S.2 3 k = 1)) n.1
theorem sheds_S {n : Nat × Nat × Nat} {S p11 : MS} {p3 : Int32 × MS} {q11 : Int32 × MS} (e3 : p3 = f_X4_fromGeneratorsNow n S) (e11 : q11 = f_X4_fromBatteriesNow n 7 p3.2) : q11.2 = S ∧ p3.1 + q11.1 = canM n S := by
  rw [fGN_eq] at e3
  subst e3
  rw [fBN_eq] at e11
  subst e11
  exact ⟨rfl, rfl⟩
theorem sheds_rp0 {n : Nat × Nat × Nat} {S : MS} {p3 q11 : Int32 × MS} (e3 : p3 = f_X4_fromGeneratorsNow n S) (e11 : q11 = f_X4_fromBatteriesNow n 7 p3.2) (h : shOk n S) : rpOk (q11.2.2 1) (q11.2.2 2) n.1 := by
  rw [(sheds_S (p11 := S) e3 e11).1]
  exact h.1
theorem sheds_can0 {n : Nat × Nat × Nat} {S : MS} {p3 q11 : Int32 × MS} (e3 : p3 = f_X4_fromGeneratorsNow n S) (e11 : q11 = f_X4_fromBatteriesNow n 7 p3.2) (h : shOk n S) : 0 ≤ (p3.1 + q11.1).toInt := by
  rw [(sheds_S (p11 := S) e3 e11).2]
  exact h.2
/-- as long as too much is asked for, there is a load to shed: the one with the greatest key -/
theorem sheds_step {n : Nat × Nat × Nat} {S : MS} {v : Int32} {p24 p39 : Int32 × MS} (hn : n.1 ≤ 10 ∧ n.2.1 ≤ 3 ∧ n.2.2 ≤ 3) (hr : rpOk (S.2 1) (S.2 2) n.1) (h0 : 0 ≤ v.toInt) (e24 : p24 = f_X4_needed n S) (c : ¬ p24.1 ≤ v) (e39 : p39 = f_X4_inOrder n 1 0 0 p24.2) :
    ∃ k, k < n.1 ∧ p39.1 = nI k ∧ p39.2 = S ∧ S.2 3 k = 1 ∧ ∀ j, j < n.1 → S.2 3 j = 1 → key (S.2 1) (S.2 2) j ≤ key (S.2 1) (S.2 2) k := by
  rw [needed_eq] at e24
  subst e24
  rw [inOrder_eq hr hn.1] at e39
  subst e39
  have hex : ∃ k, k < n.1 ∧ S.2 3 k = 1 := by
    rcases Classical.em (∃ k, k < n.1 ∧ S.2 3 k = 1) with h | h
    · exact h
    · exfalso
      apply c
      show sm _ n.1 ≤ v
      rw [sm_zero (g := srd (S.2 3) (S.2 2)) (fun j hj => if_neg (fun z => h ⟨j, hj, z⟩)), i_le, i_0]
      exact h0
  obtain ⟨k0, hk0, hs0⟩ := hex
  obtain ⟨k, hk, hs, hmax⟩ := key_max (S.2 1) (S.2 2) n.1 k0 hk0 hs0
  have hc : cnt (ahd (S.2 1) (S.2 2) (S.2 3) 1 (decide ((0 : Int32) ≠ 0)) k) n.1 = 0 := by
    rw [show decide ((0 : Int32) ≠ 0) = false from by decide, cnt_ahd_0]
    intro j hj hx _
    have := hmax j hj hx
    show ¬ _
    omega
  obtain ⟨j, hj, e1, hs2, hc2⟩ := sel_some (st := S.2 3) (x := 1) (pl := 0) (c := fun k => cnt (ahd (S.2 1) (S.2 2) (S.2 3) 1 (decide ((0 : Int32) ≠ 0)) k) n.1) n.1 k hk hs (by show nI (cnt _ _) = 0; rw [hc]; rfl)
  refine ⟨j, hj, e1, rfl, hs2, fun i hi hx => ?_⟩
  have hc3 : cnt (ahd (S.2 1) (S.2 2) (S.2 3) 1 false j) n.1 = 0 := by
    have hc2 : nI (cnt (ahd (S.2 1) (S.2 2) (S.2 3) 1 false j) n.1) = nI 0 := hc2
    have h1 := cnt_le (ahd (S.2 1) (S.2 2) (S.2 3) 1 false j) n.1
    exact (nI_eq (by omega) (by omega)).mp hc2
  rcases Classical.em (i = j) with q | q
  · rw [q]; omega
  · have h3 := cnt_ahd_0.mp hc3 i hi hx q
    have h4 : ¬ key (S.2 1) (S.2 2) j < key (S.2 1) (S.2 2) i := h3
    omega
theorem sheds_in {n : Nat × Nat × Nat} {S : MS} {v : Int32} {p24 p39 : Int32 × MS} (hn : n.1 ≤ 10 ∧ n.2.1 ≤ 3 ∧ n.2.2 ≤ 3) (hr : rpOk (S.2 1) (S.2 2) n.1) (h0 : 0 ≤ v.toInt) (e24 : p24 = f_X4_needed n S) (c : ¬ p24.1 ≤ v) (e39 : p39 = f_X4_inOrder n 1 0 0 p24.2) : vp_in p39.1 10 := by
  obtain ⟨k, hk, e, -⟩ := sheds_step hn hr h0 e24 c e39
  rw [e]
  exact vp_in_nI (by omega) (by omega)
theorem muA_ne {M : MS} {r r' i : Nat} {v : Int32} (h : r' ≠ r) : (muA M r i v).2 r' = M.2 r' := by
  funext q
  exact up2_n (Or.inl h)
theorem sheds_rp {n : Nat × Nat × Nat} {S : MS} {v w : Int32} {p24 p39 : Int32 × MS} {i : Nat} (hn : n.1 ≤ 10 ∧ n.2.1 ≤ 3 ∧ n.2.2 ≤ 3) (hr : rpOk (S.2 1) (S.2 2) n.1) (h0 : 0 ≤ v.toInt) (e24 : p24 = f_X4_needed n S) (c : ¬ p24.1 ≤ v) (e39 : p39 = f_X4_inOrder n 1 0 0 p24.2) : rpOk ((muA p39.2 3 i w).2 1) ((muA p39.2 3 i w).2 2) n.1 := by
  obtain ⟨k, -, -, e, -⟩ := sheds_step hn hr h0 e24 c e39
  rw [e, muA_ne (by decide), muA_ne (by decide)]
  exact hr
theorem sheds_mu {n : Nat × Nat × Nat} {S : MS} {v : Int32} {q : Nat} {p24 p39 : Int32 × MS} (hn : n.1 ≤ 10 ∧ n.2.1 ≤ 3 ∧ n.2.2 ≤ 3) (hr : rpOk (S.2 1) (S.2 2) n.1) (h0 : 0 ≤ v.toInt) (e24 : p24 = f_X4_needed n S) (c : ¬ p24.1 ≤ v) (e39 : p39 = f_X4_inOrder n 1 0 0 p24.2) (hm : srv n S < q + 1) : srv n (muA p39.2 3 p39.1.toNatClampNeg 2) < q := by
  obtain ⟨k, hk, e1, e2, hs, -⟩ := sheds_step hn hr h0 e24 c e39
  rw [e2, e1, nI_clamp (by omega)]
  have : srv n (muA S 3 k 2) < srv n S := by
    refine cnt_lt (k := k) (fun j _ h => ?_) hk ?_ ?_
    · by_cases hj : j = k
      · subst hj
        simp [muA, up2] at h
      · have : (muA S 3 k 2).2 3 j = S.2 3 j := up2_n (Or.inr hj)
        rw [this] at h
        exact h
    · simp [muA, up2]
    · simp [hs]
  omega
theorem minv_S {n : Nat × Nat × Nat} {S : MS} {k : Nat} {v : Int32} (h : MInv n S) : MInv n (muS S k v) := h
theorem minv_A {n : Nat × Nat × Nat} {S : MS} {r i : Nat} {v : Int32} (hr : r ≠ 1 ∧ r ≠ 2 ∧ r ≠ 7 ∧ r ≠ 8 ∧ r ≠ 12) (h : MInv n S) : MInv n (muA S r i v) := by
  unfold MInv
  rw [muA_ne (fun e => hr.1 e.symm), muA_ne (fun e => hr.2.1 e.symm), muA_ne (fun e => hr.2.2.1 e.symm), muA_ne (fun e => hr.2.2.2.1 e.symm), muA_ne (fun e => hr.2.2.2.2 e.symm)]
  exact h
theorem minv_stops {n : Nat × Nat × Nat} {S : MS} {g : Nat} (h : MInv n S) : MInv n (f_X4_stops n g S) := by
  unfold f_X4_stops
  exact minv_A (by decide) (minv_A (by decide) h)
theorem minv_bts {n : Nat × Nat × Nat} {S p : MS} {g : Nat} (h : MInv n S) (e : p = f_X4_beginsToStart n g S) : MInv n p := by
  subst e
  simp only [f_X4_beginsToStart, f_X4_beginsToStart_b22, f_X4_beginsToStart_b23, f_X4_beginsToStart_b58, f_X4_beginsToStart_b59, f_X4_beginsToStart_b77, f_X4_beginsToStart_b103]
  repeat' split
  all_goals repeat (first | exact h | refine minv_A (by decide) ?_)
theorem minv_gos {n : Nat × Nat × Nat} {S p : MS} {g : Nat} (h : MInv n S) (e : p = f_X4_goesOnStarting n g S) : MInv n p := by
  subst e
  simp only [f_X4_goesOnStarting, f_X4_goesOnStarting_b70, f_X4_goesOnStarting_c74, f_X4_goesOnStarting_b94, f_X4_stops]
  repeat' split
  all_goals repeat (first | exact h | refine minv_A (by decide) ?_)
theorem minv_gor {n : Nat × Nat × Nat} {S p : MS} {g : Nat} (h : MInv n S) (e : p = f_X4_goesOnRunning n g S) : MInv n p := by
  subst e
  simp only [f_X4_goesOnRunning, f_X4_goesOnRunning_b26, f_X4_goesOnRunning_b68, f_X4_goesOnRunning_b89, f_X4_goesOnRunning_c62, f_X4_goesOnRunning_c86, f_X4_stops]
  repeat' split
  all_goals repeat (first | exact h | refine minv_A (by decide) ?_)
theorem in_2 {n : Nat × Nat × Nat} {x lo hi : Int32} {S : MS} {p : Int32 × MS} (e : p = f_X4_in n x lo hi S) : p.2 = S := by rw [e, f_in_eq]
theorem told_eq (n : Nat × Nat × Nat) (r : Nat) (x : Int32) (N : Nat) (S : MS) : f_X4_told n r x N S = if 0 ≤ x ∧ x ≤ nI N - 1 then (S.2 r x.toNatClampNeg, muS S 0 0) else (0, muS (muS S 0 0) 0 1) := by
  unfold f_X4_told f_X4_told_c10
  rw [f_in_eq]
  by_cases c : 0 ≤ x ∧ x ≤ nI N - 1
  · rw [if_pos c, if_pos c]; rfl
  · rw [if_neg c, if_neg c]; rfl
theorem told_in {n : Nat × Nat × Nat} {x : Int32} {S : MS} {p : Int32 × MS} (hn : n.1 ≤ 10 ∧ n.2.1 ≤ 3 ∧ n.2.2 ≤ 3) (e : p = f_X4_told n 16 x n.2.2 S) (h : p.2.1 0 = 0) : vp_in x 3 := by
  rw [told_eq] at e
  by_cases c : 0 ≤ x ∧ x ≤ nI n.2.2 - 1
  · exact vp_mono hn.2.2 (vp_of_le (by omega) c.1 c.2)
  · rw [if_neg c] at e
    rw [e] at h
    exact absurd (show (1 : Int32) = 0 from h) (by decide)
