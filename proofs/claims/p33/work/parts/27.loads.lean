/-! ===== loads: who is first, shedding, returning ===== -/
abbrev stf (S : CS) : Nat → Int32 := fun i => S.2.1 i 3
abbrev pwf (S : CS) : Nat → Int32 := fun i => S.2.1 i 2
def dem (S : CS) : Int32 := sm (srd (stf S) (pwf S)) 10
def gpw (S : CS) : Int32 := sm (gvs (fun i => S.2.2.2 i 4) (fun i => S.2.2.2 i 5) (fun i => S.2.2.2 i 0)) 3
def bpw (S : CS) : Int32 := sm (fun k => mn (S.2.2.1 k 2) (S.2.2.1 k 1)) 3
def PW (S : CS) : Prop := ∀ k, 0 ≤ (S.2.1 k 2).toInt ∧ (S.2.1 k 2).toInt ≤ 500
theorem srd_bd {S : CS} (h : PW S) (k : Nat) : 0 ≤ (srd (stf S) (pwf S) k).toInt ∧ (srd (stf S) (pwf S) k).toInt ≤ 500 := by
  unfold srd
  split
  · exact h k
  · rw [i_0]; omega
theorem dem_bd {S : CS} (h : PW S) : 0 ≤ (dem S).toInt ∧ (dem S).toInt ≤ 5000 := by
  have h1 := sm_bd (g := srd (stf S) (pwf S)) (m := 10) (B := 500) (by omega) (by omega) (fun k _ => srd_bd h k)
  unfold dem
  omega
theorem dem_z {S : CS} (h : ∀ k, k < 10 → S.2.1 k 3 ≠ 1) : dem S = 0 := sm_zero (fun k hk => if_neg (h k hk))
theorem gAO_2 (k j : Nat) (S : CS) : (f_X2_goesAheadOf k j S).2 = S := by
  unfold f_X2_goesAheadOf f_X2_goesAheadOf_c10 f_X2_goesAheadOf_c18 f_X2_goesAheadOf_b21
  split
  · exact isShed_2 k j S
  · exact isShed_2 j k S
def isF (S : CS) (x : Int32) (m : Nat) : Option Nat → Prop
  | none => ∀ i, i < m → S.2.1 i 3 ≠ x
  | some j => j < 10 ∧ S.2.1 j 3 = x
theorem fIO_h {S : CS} {x : Int32} : ∀ (q k : Nat) (o : Option Nat), k ≤ 10 → 10 < k + q → isF S x k o → ∃ o', isF S x 10 o' ∧ f_X3_firstInOrder_h14 x q k S o = (o', S) := by
  intro q
  induction q with
  | zero => intro k o h1 h2; omega
  | succ q ih =>
    intro k o h1 h2 hF
    by_cases hk : 10 ≤ k
    · have ek : k = 10 := by omega
      subst ek
      refine ⟨o, hF, ?_⟩
      cases o with
      | none => rw [f_X3_firstInOrder_h14, if_pos hk]
      | some j => rw [f_X3_firstInOrder_h14, if_pos hk]
    · cases o with
      | none =>
        rw [f_X3_firstInOrder_h14, if_neg hk]
        by_cases c : S.2.1 k 3 = x
        · rw [if_pos c]
          exact ih (k + 1) (some k) (by omega) (by omega) ⟨by omega, c⟩
        · rw [if_neg c]
          refine ih (k + 1) none (by omega) (by omega) (fun i hi => ?_)
          rcases Nat.lt_or_ge i k with z | z
          · exact hF i z
          · have e : i = k := by omega
            rw [e]; exact c
      | some j =>
        rw [f_X3_firstInOrder_h14, if_neg hk]
        by_cases c : S.2.1 k 3 = x
        · rw [if_pos c]
          unfold f_X3_firstInOrder_c43
          rw [gAO_2]
          split
          · exact ih (k + 1) (some j) (by omega) (by omega) hF
          · exact ih (k + 1) (some k) (by omega) (by omega) ⟨by omega, c⟩
        · rw [if_neg c]
          exact ih (k + 1) (some j) (by omega) (by omega) hF
theorem fIO (S : CS) (x : Int32) : ∃ o, isF S x 10 o ∧ f_X3_firstInOrder x S = (o, S) :=
  fIO_h 11 0 none (by omega) (by omega) (fun i hi => absurd hi (Nat.not_lt_zero i))
/-- a load's state set: the demand -/
theorem dem_st {S : CS} {j : Nat} {v : Int32} (hj : j < 10) : dem (cuL S j 3 v) = dem S + ((if v = 1 then S.2.1 j 2 else 0) - (if S.2.1 j 3 = 1 then S.2.1 j 2 else 0)) := by
  unfold dem
  rw [sm_upd (g := srd (stf S) (pwf S)) (g' := srd (stf (cuL S j 3 v)) (pwf (cuL S j 3 v))) (j := j) hj (fun i _ hne => ?_)]
  · have e3 : (cuL S j 3 v).2.1 j 3 = v := by rw [rdL, if_pos ⟨rfl, rfl⟩]
    have e2 : (cuL S j 3 v).2.1 j 2 = S.2.1 j 2 := by rw [rdL, if_neg (fun z => absurd z.2 (by decide))]
    show sm _ 10 + ((if (cuL S j 3 v).2.1 j 3 = 1 then (cuL S j 3 v).2.1 j 2 else 0) - (if S.2.1 j 3 = 1 then S.2.1 j 2 else 0)) = _
    rw [e3, e2]
  · have e : ∀ z, (cuL S j 3 v).2.1 i z = S.2.1 i z := fun z => by rw [rdL, if_neg (fun y => hne y.1)]
    show (if (cuL S j 3 v).2.1 i 3 = 1 then (cuL S j 3 v).2.1 i 2 else 0) = (if S.2.1 i 3 = 1 then S.2.1 i 2 else 0)
    rw [e, e]
def ob (a b : Int32) (S T : CS) (j : Nat) : Bool := decide (S.2.1 j 3 = a ∧ T.2.1 j 3 = b)
/-- shed so far: k loads -/
def SH (S : CS) (k : Nat) (T : CS) : Prop := T.1 = S.1 ∧ T.2.2 = S.2.2 ∧ (∀ j z, z ≠ 3 → T.2.1 j z = S.2.1 j z) ∧ (∀ j, T.2.1 j 3 = S.2.1 j 3 ∨ (S.2.1 j 3 = 1 ∧ T.2.1 j 3 = 2)) ∧ cnt (ob 1 2 S T) 10 = k
theorem one_two : ¬ (1 : Int32) = 2 := by decide
theorem two_one : ¬ (2 : Int32) = 1 := by decide
theorem SH_0 (S : CS) : SH S 0 S := ⟨rfl, rfl, fun _ _ _ => rfl, fun _ => Or.inl rfl, cnt_zero.mpr (fun j _ => decide_eq_false (fun h => one_two (h.1.symm.trans h.2)))⟩
theorem shed_h {S : CS} {sup : Int32} (hs : 0 ≤ sup.toInt) : ∀ (q k : Nat) (T : CS) (need : Int32), k ≤ 10 → 10 < k + q → SH S k T → need = dem T → ∃ (k' : Nat) (T' : CS), f_X3_shedLoads_h17 q k T sup need = (nI k', T') ∧ k' ≤ 10 ∧ SH S k' T' ∧ (dem T').toInt ≤ sup.toInt := by
  intro q
  induction q with
  | zero => intro k T need h1 h2; omega
  | succ q ih =>
    intro k T need h1 h2 hT hd
    rw [f_X3_shedLoads_h17]
    unfold f_X3_shedLoads_b63
    by_cases c : need ≤ sup
    · rw [if_pos c]
      exact ⟨k, T, rfl, h1, hT, by rw [← hd]; rw [i_le] at c; exact c⟩
    · rw [if_neg c]
      by_cases hk : 10 ≤ k
      · rw [if_pos hk]
        refine ⟨k, T, rfl, h1, hT, ?_⟩
        have ek : k = 10 := by omega
        obtain ⟨-, -, -, -, h5⟩ := hT
        rw [ek] at h5
        have ha := cnt_all h5
        rw [dem_z (fun j hj e => two_one ((of_decide_eq_true (ha j hj)).2.symm.trans e)), i_0]
        exact hs
      · rw [if_neg hk]
        obtain ⟨o, hF, e⟩ := fIO T 1
        rw [e]
        cases o with
        | none =>
          refine ⟨k, T, rfl, h1, hT, ?_⟩
          rw [dem_z hF, i_0]
          exact hs
        | some j =>
          obtain ⟨hj, hj3⟩ := hF
          obtain ⟨h1', h2', h3', h4', h5'⟩ := hT
          have eS : S.2.1 j 3 = 1 := by
            rcases h4' j with z | z
            · rw [← z]; exact hj3
            · exact z.1
          have e3 : (cuL T j 3 2).2.1 j 3 = 2 := by rw [rdL, if_pos ⟨rfl, rfl⟩]
          have e2 : (cuL T j 3 2).2.1 j 2 = T.2.1 j 2 := by rw [rdL, if_neg (fun z => absurd z.2 (by decide))]
          have en : ∀ i z, i ≠ j → (cuL T j 3 2).2.1 i z = T.2.1 i z := fun i z hi => by rw [rdL, if_neg (fun y => hi y.1)]
          show ∃ (k' : Nat) (T' : CS), f_X3_shedLoads_h17 q (k + 1) (cuL T j 3 2) sup (need - (cuL T j 3 2).2.1 j 2) = (nI k', T') ∧ _
          refine ih (k + 1) (cuL T j 3 2) _ (by omega) (by omega) ⟨h1', h2', fun i z hz => ?_, fun i => ?_, ?_⟩ ?_
          · rw [rdL, if_neg (fun y => hz y.2)]
            exact h3' i z hz
          · by_cases hi : i = j
            · rw [hi]
              exact Or.inr ⟨eS, e3⟩
            · rw [en i 3 hi]
              exact h4' i
          · have e9 := cnt_upd (P := ob 1 2 S T) (P' := ob 1 2 S (cuL T j 3 2)) (j := j) (m := 10) hj (fun i _ hi => by unfold ob; rw [en i 3 hi]) (decide_eq_false (fun h => one_two (hj3.symm.trans h.2))) (decide_eq_true ⟨eS, e3⟩)
            rw [e9, h5']
          · rw [dem_st hj, if_neg two_one, if_pos hj3, e2, hd]
            grind
theorem gpw_bd {S : CS} (hg : ∀ k, 0 ≤ (S.2.2.2 k 0).toInt ∧ (S.2.2.2 k 0).toInt ≤ 1000) : 0 ≤ (gpw S).toInt ∧ (gpw S).toInt ≤ 3000 := by
  have h1 := sm_bd (g := gvs (fun i => S.2.2.2 i 4) (fun i => S.2.2.2 i 5) (fun i => S.2.2.2 i 0)) (m := 3) (B := 1000) (by omega) (by omega) (fun k _ => by
    unfold gvs
    split
    · exact hg k
    · rw [i_0]; omega)
  unfold gpw
  omega
theorem bpw_bd {S : CS} (hb : ∀ k, 0 ≤ (S.2.2.1 k 1).toInt ∧ 0 ≤ (S.2.2.1 k 2).toInt ∧ (S.2.2.1 k 2).toInt ≤ 500) : 0 ≤ (bpw S).toInt ∧ (bpw S).toInt ≤ 1500 := by
  have h1 := sm_bd (g := fun k => mn (S.2.2.1 k 2) (S.2.2.1 k 1)) (m := 3) (B := 500) (by omega) (by omega) (fun k _ => by
    obtain ⟨a, b, c⟩ := hb k
    have m0 := mn_0 (x := S.2.2.1 k 2) (y := S.2.2.1 k 1) b a
    have m1 := mn_le1 (S.2.2.1 k 2) (S.2.2.1 k 1)
    exact ⟨m0, by omega⟩)
  unfold bpw
  omega
theorem shed_all {S : CS} (hg : ∀ k, 0 ≤ (S.2.2.2 k 0).toInt ∧ (S.2.2.2 k 0).toInt ≤ 1000) (hb : ∀ k, 0 ≤ (S.2.2.1 k 1).toInt ∧ 0 ≤ (S.2.2.1 k 2).toInt ∧ (S.2.2.1 k 2).toInt ≤ 500) : ∃ (k : Nat) (T : CS), f_X3_shedLoads S = (nI k, T) ∧ k ≤ 10 ∧ SH S k T ∧ (dem T).toInt ≤ (gpw S).toInt + (bpw S).toInt := by
  have g1 := gpw_bd hg
  have b1 := bpw_bd hb
  have eA : (gpw S + bpw S).toInt = (gpw S).toInt + (bpw S).toInt := i_add (by omega)
  unfold f_X3_shedLoads f_X3_shedLoads_c1 f_X3_shedLoads_c5 f_X3_shedLoads_c11
  rw [sGP_eq]
  dsimp only
  rw [sBP_eq]
  dsimp only
  rw [demand_eq]
  obtain ⟨k, T, h1, h2, h3, h4⟩ := shed_h (S := S) (sup := gpw S + bpw S) (by omega) 11 0 S (dem S) (by omega) (by omega) (SH_0 S) rfl
  exact ⟨k, T, h1, h2, h3, by omega⟩
/-- a load's return -/
theorem ret_all (S : CS) : f_X3_returnLoad S = S ∨ ∃ j, j < 10 ∧ S.2.1 j 3 = 2 ∧ f_X3_returnLoad S = cuM (cuL S j 3 1) 11 (S.1 7) ∧ (S.1 6 = 0 → ¬ gpw S < dem S + S.2.1 j 2) := by
  have key : f_X3_returnLoad_b25 S = S ∨ ∃ j, j < 10 ∧ S.2.1 j 3 = 2 ∧ f_X3_returnLoad_b25 S = cuM (cuL S j 3 1) 11 (S.1 7) ∧ (S.1 6 = 0 → ¬ gpw S < dem S + S.2.1 j 2) := by
    unfold f_X3_returnLoad_b25
    obtain ⟨o, hF, e⟩ := fIO S 2
    rw [e]
    cases o with
    | none => exact Or.inl rfl
    | some j =>
      obtain ⟨hj, hj3⟩ := hF
      show (if S.1 6 = 0 then f_X3_returnLoad_c44 j (f_X3_demand S) else f_X3_returnLoad_b59 S j) = S ∨ ∃ j1, j1 < 10 ∧ S.2.1 j1 3 = 2 ∧ (if S.1 6 = 0 then f_X3_returnLoad_c44 j (f_X3_demand S) else f_X3_returnLoad_b59 S j) = cuM (cuL S j1 3 1) 11 (S.1 7) ∧ _
      by_cases c : S.1 6 = 0
      · rw [if_pos c, demand_eq]
        unfold f_X3_returnLoad_c44
        rw [sGP_eq]
        unfold f_X3_returnLoad_c53
        by_cases c2 : gpw S < dem S + S.2.1 j 2
        · left
          rw [if_pos (show ((sm (gvs (fun i => S.2.2.2 i 4) (fun i => S.2.2.2 i 5) (fun i => S.2.2.2 i 0)) 3, S) : Int32 × CS).1 < ((sm (srd (fun i => S.2.1 i 3) (fun i => S.2.1 i 2)) 10, S) : Int32 × CS).1 + ((sm (srd (fun i => S.2.1 i 3) (fun i => S.2.1 i 2)) 10, S) : Int32 × CS).2.2.1 j 2 from c2)]
          rfl
        · right
          refine ⟨j, hj, hj3, ?_, fun _ => c2⟩
          rw [if_neg (show ¬ ((sm (gvs (fun i => S.2.2.2 i 4) (fun i => S.2.2.2 i 5) (fun i => S.2.2.2 i 0)) 3, S) : Int32 × CS).1 < ((sm (srd (fun i => S.2.1 i 3) (fun i => S.2.1 i 2)) 10, S) : Int32 × CS).1 + ((sm (srd (fun i => S.2.1 i 3) (fun i => S.2.1 i 2)) 10, S) : Int32 × CS).2.2.1 j 2 from c2)]
          rfl
      · rw [if_neg c]
        exact Or.inr ⟨j, hj, hj3, rfl, fun z => absurd z c⟩
  unfold f_X3_returnLoad
  split
  · exact key
  · split
    · exact key
    · exact Or.inl rfl
