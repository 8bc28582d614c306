/-! ===== what each piece of a minute changes, and what it keeps ===== -/
theorem sm_upd {g g' : Nat → Int32} {j : Nat} : ∀ {m : Nat}, j < m → (∀ i, i < m → i ≠ j → g' i = g i) → sm g' m = sm g m + (g' j - g j) := by
  intro m
  induction m with
  | zero => intro h; omega
  | succ m ih =>
    intro hj h
    show sm g' m + g' m = sm g m + g m + (g' j - g j)
    by_cases e : j = m
    · subst e
      rw [sm_congr (g := g') (g' := g) (fun i hi => h i (by omega) (by omega))]
      grind
    · rw [ih (by omega) (fun i hi hne => h i (by omega) hne), h m (by omega) (fun z => e z.symm)]
      grind
theorem cnt_upd {P P' : Nat → Bool} {j : Nat} : ∀ {m : Nat}, j < m → (∀ i, i < m → i ≠ j → P' i = P i) → P j = false → P' j = true → cnt P' m = cnt P m + 1 := by
  intro m
  induction m with
  | zero => intro h; omega
  | succ m ih =>
    intro hj h h0 h1
    show cnt P' m + _ = cnt P m + _ + 1
    by_cases e : j = m
    · subst e
      rw [cnt_congr (P := P') (P' := P) (fun i hi => h i (by omega) (by omega)), h0, h1, if_pos rfl, if_neg (by decide)]
    · rw [ih (by omega) (fun i hi hne => h i (by omega) hne) h0 h1, h m (by omega) (fun z => e z.symm)]
      omega
theorem cnt_all {P : Nat → Bool} : ∀ {m : Nat}, cnt P m = m → ∀ j, j < m → P j = true := by
  intro m
  induction m with
  | zero => intro _ j hj; omega
  | succ m ih =>
    intro h j hj
    have h1 := cnt_le P m
    have h2 : cnt P m + (if P m = true then 1 else 0) = m + 1 := h
    by_cases c : P m = true
    · rw [if_pos c] at h2
      rcases Nat.lt_or_ge j m with z | z
      · exact ih (by omega) j z
      · have e : j = m := by omega
        rw [e]; exact c
    · rw [if_neg c] at h2
      omega
theorem sm_nn {g : Nat → Int32} {B : Int} (hB : 0 ≤ B ∧ B ≤ 100000) : ∀ {m : Nat}, m ≤ 10 → (∀ k, k < m → 0 ≤ (g k).toInt ∧ (g k).toInt ≤ B) → 0 ≤ (sm g m).toInt ∧ (sm g m).toInt ≤ m * B := fun hm h => sm_bd hm hB h
-- one generator's row
def OG (k : Nat) (S T : CS) : Prop := T.1 = S.1 ∧ T.2.1 = S.2.1 ∧ T.2.2.1 = S.2.2.1 ∧ (∀ j z, j ≠ k → T.2.2.2 j z = S.2.2.2 j z) ∧ T.2.2.2 k 0 = S.2.2.2 k 0 ∧ T.2.2.2 k 8 = S.2.2.2 k 8
theorem OG_rf {k : Nat} {S : CS} : OG k S S := ⟨rfl, rfl, rfl, fun _ _ _ => rfl, rfl, rfl⟩
theorem OG_cu {k z : Nat} {S T : CS} {v : Int32} (hz : z ≠ 0 ∧ z ≠ 8) (h : OG k S T) : OG k S (cuG T k z v) := by
  obtain ⟨h1, h2, h3, h4, h5, h6⟩ := h
  refine ⟨h1, h2, h3, fun j y hj => ?_, ?_, ?_⟩
  · rw [rdG, if_neg (fun e => hj e.1)]; exact h4 j y hj
  · rw [rdG, if_neg (fun e => hz.1 e.2.symm)]; exact h5
  · rw [rdG, if_neg (fun e => hz.2 e.2.symm)]; exact h6
theorem OG_tr {k : Nat} {S T U : CS} (h : OG k S T) (g : OG k T U) : OG k S U := by
  obtain ⟨h1, h2, h3, h4, h5, h6⟩ := h
  obtain ⟨g1, g2, g3, g4, g5, g6⟩ := g
  exact ⟨g1.trans h1, g2.trans h2, g3.trans h3, fun j z hj => (g4 j z hj).trans (h4 j z hj), g5.trans h5, g6.trans h6⟩
theorem OG_if {k : Nat} {S T U : CS} {q : Prop} {dq : Decidable q} (h : OG k S T) (g : OG k S U) : OG k S (@ite CS q dq T U) := by
  by_cases c : q
  · rw [if_pos c]; exact h
  · rw [if_neg c]; exact g
theorem OG_stop (k : Nat) (S : CS) : OG k S (f_X1_stopFailing k S) := by
  unfold f_X1_stopFailing f_X1_stopFailing_b17
  split
  · exact OG_cu (by decide) (OG_cu (by decide) OG_rf)
  · exact OG_cu (by decide) (OG_cu (by decide) (OG_cu (by decide) OG_rf))
theorem OG_start (k : Nat) (S : CS) : OG k S (f_X1_goOnStarting k S) := by
  unfold f_X1_goOnStarting f_X1_goOnStarting_c46 f_X1_goOnStarting_b62
  split
  · split
    · exact OG_cu (by decide) (OG_cu (by decide) (OG_cu (by decide) OG_rf))
    · exact OG_tr (OG_cu (z := 10) (by decide) (OG_cu (z := 9) (by decide) (OG_cu (z := 6) (by decide) OG_rf))) (OG_stop k _)
  · exact OG_cu (by decide) OG_rf
theorem OG_run (k : Nat) (x : Int32) (S : CS) : OG k S (f_X1_goOnRunning k x S) := by
  unfold f_X1_goOnRunning f_X1_goOnRunning_b71
  split
  · exact OG_cu (by decide) OG_rf
  · split
    · exact OG_cu (by decide) OG_rf
    · split
      · exact OG_cu (by decide) OG_rf
      · exact OG_cu (by decide) (OG_cu (by decide) (OG_cu (by decide) OG_rf))
theorem OG_burn (k : Nat) (S : CS) : OG k S (f_X1_burnFuel k S) := by
  unfold f_X1_burnFuel f_X1_burnFuel_c48 f_X1_burnFuel_b51
  exact OG_if (OG_if (OG_tr (OG_cu (z := 3) (by decide) OG_rf) (OG_stop k _)) (OG_cu (z := 3) (by decide) OG_rf)) OG_rf
theorem burn_0 {k : Nat} {S : CS} (h : S.2.2.2 k 4 = 0) : f_X1_burnFuel k S = S := by
  unfold f_X1_burnFuel f_X1_burnFuel_b51
  rw [h, if_neg (by decide)]
theorem OG_begin (k : Nat) (S : CS) : OG k S (f_X3_beginStart k S) := by
  unfold f_X3_beginStart f_X3_beginStart_b30 f_X3_beginStart_b31 f_X3_beginStart_b62 f_X3_beginStart_b63 f_X3_beginStart_b72 f_X3_beginStart_b90
  repeat' split
  all_goals first | exact OG_rf | exact OG_cu (by decide) (OG_cu (by decide) (OG_cu (by decide) OG_rf))
theorem begin_0 {k : Nat} {S : CS} (h : S.2.2.2 k 3 = 0) : f_X3_beginStart k S = S := by
  unfold f_X3_beginStart
  rw [if_pos h]
-- a generator's move, and all of them
theorem mv_1 (k : Nat) (S : CS) : (mvC k S).1 = S.1 ∧ (mvC k S).2.1 = S.2.1 ∧ (mvC k S).2.2.1 = S.2.2.1 ∧ (∀ j z, j ≠ k → (mvC k S).2.2.2 j z = S.2.2.2 j z) ∧ (mvC k S).2.2.2 k 0 = S.2.2.2 k 0 ∧ (mvC k S).2.2.2 k 8 = 0 ∧ (S.2.2.2 k 3 = 0 → S.2.2.2 k 4 = 0 → (mvC k S).2.2.2 k 3 = 0 ∧ (mvC k S).2.2.2 k 4 = 0) := by
  have key : OG k (cuG S k 8 0) (mvC k S) := by
    unfold mvC
    split
    · exact OG_begin k _
    · split
      · exact OG_start k _
      · exact OG_run k _ _
  obtain ⟨h1, h2, h3, h4, h5, h6⟩ := key
  refine ⟨h1, h2, h3, fun j z hj => ?_, ?_, ?_, fun e3 e4 => ?_⟩
  · rw [h4 j z hj, rdG, if_neg (fun e => hj e.1)]
  · rw [h5, rdG, if_neg (fun e => absurd e.2 (by decide))]
  · rw [h6, rdG, if_pos ⟨rfl, rfl⟩]
  · have g4 : (cuG S k 8 0).2.2.2 k 4 = 0 := by rw [rdG, if_neg (fun e => absurd e.2 (by decide))]; exact e4
    have g3 : (cuG S k 8 0).2.2.2 k 3 = 0 := by rw [rdG, if_neg (fun e => absurd e.2 (by decide))]; exact e3
    unfold mvC
    rw [if_pos g4, begin_0 g3]
    exact ⟨g3, g4⟩
theorem mv_all (S : CS) : (f_X3_moveGenerators S).1 = S.1 ∧ (f_X3_moveGenerators S).2.1 = S.2.1 ∧ (f_X3_moveGenerators S).2.2.1 = S.2.2.1 ∧ (∀ j, (f_X3_moveGenerators S).2.2.2 j 0 = S.2.2.2 j 0) ∧ (∀ j, j < 3 → (f_X3_moveGenerators S).2.2.2 j 8 = 0) ∧ (∀ j, S.2.2.2 j 3 = 0 → S.2.2.2 j 4 = 0 → (f_X3_moveGenerators S).2.2.2 j 3 = 0 ∧ (f_X3_moveGenerators S).2.2.2 j 4 = 0) := by
  rw [mvC_lp]
  refine itP (P := fun k (T : CS) => T.1 = S.1 ∧ T.2.1 = S.2.1 ∧ T.2.2.1 = S.2.2.1 ∧ (∀ j, T.2.2.2 j 0 = S.2.2.2 j 0) ∧ (∀ j, j < k → T.2.2.2 j 8 = 0) ∧ (∀ j, S.2.2.2 j 3 = 0 → S.2.2.2 j 4 = 0 → T.2.2.2 j 3 = 0 ∧ T.2.2.2 j 4 = 0)) (fun k T hk h => ?_) ⟨rfl, rfl, rfl, fun _ => rfl, fun j hj => absurd hj (Nat.not_lt_zero j), fun j a b => ⟨a, b⟩⟩
  obtain ⟨h1, h2, h3, h4, h5, h6⟩ := h
  obtain ⟨g1, g2, g3, g4, g5, g6, g7⟩ := mv_1 k T
  refine ⟨g1.trans h1, g2.trans h2, g3.trans h3, fun j => ?_, fun j hj => ?_, fun j e3 e4 => ?_⟩
  · by_cases e : j = k
    · subst e; rw [g5]; exact h4 j
    · rw [g4 j 0 e]; exact h4 j
  · by_cases e : j = k
    · subst e; exact g6
    · rw [g4 j 8 e]; exact h5 j (by omega)
  · obtain ⟨a3, a4⟩ := h6 j e3 e4
    by_cases e : j = k
    · subst e; exact g7 a3 a4
    · rw [g4 j 3 e, g4 j 4 e]; exact ⟨a3, a4⟩
theorem burn_all (S : CS) : (itr f_X1_burnFuel 3 S).1 = S.1 ∧ (itr f_X1_burnFuel 3 S).2.1 = S.2.1 ∧ (itr f_X1_burnFuel 3 S).2.2.1 = S.2.2.1 ∧ (∀ j, (itr f_X1_burnFuel 3 S).2.2.2 j 0 = S.2.2.2 j 0) ∧ (∀ j, S.2.2.2 j 3 = 0 → S.2.2.2 j 4 = 0 → (itr f_X1_burnFuel 3 S).2.2.2 j 3 = 0 ∧ (itr f_X1_burnFuel 3 S).2.2.2 j 4 = 0) := by
  refine itP (P := fun k (T : CS) => T.1 = S.1 ∧ T.2.1 = S.2.1 ∧ T.2.2.1 = S.2.2.1 ∧ (∀ j, T.2.2.2 j 0 = S.2.2.2 j 0) ∧ (∀ j, S.2.2.2 j 3 = 0 → S.2.2.2 j 4 = 0 → T.2.2.2 j 3 = 0 ∧ T.2.2.2 j 4 = 0)) (fun k T hk h => ?_) ⟨rfl, rfl, rfl, fun _ => rfl, fun j a b => ⟨a, b⟩⟩
  obtain ⟨h1, h2, h3, h4, h6⟩ := h
  obtain ⟨g1, g2, g3, g4, g5, g6⟩ := OG_burn k T
  refine ⟨g1.trans h1, g2.trans h2, g3.trans h3, fun j => ?_, fun j e3 e4 => ?_⟩
  · by_cases e : j = k
    · subst e; rw [g5]; exact h4 j
    · rw [g4 j 0 e]; exact h4 j
  · obtain ⟨a3, a4⟩ := h6 j e3 e4
    by_cases e : j = k
    · subst e; rw [burn_0 a4]; exact ⟨a3, a4⟩
    · rw [g4 j 3 e, g4 j 4 e]; exact ⟨a3, a4⟩
-- wear
theorem wear_1 (k : Nat) (S : CS) : (f_X0_wearOut k S).1 = S.1 ∧ (f_X0_wearOut k S).2.1 = S.2.1 ∧ (f_X0_wearOut k S).2.2.2 = S.2.2.2 ∧ (∀ j z, z ≠ 0 → (f_X0_wearOut k S).2.2.1 j z = S.2.2.1 j z) ∧ (∀ j, (f_X0_wearOut k S).2.2.1 j 0 = S.2.2.1 j 0 ∨ (S.2.2.1 j 1 = 0 ∧ ¬ S.2.2.1 j 0 ≤ 1 ∧ j = k ∧ (f_X0_wearOut k S).2.2.1 j 0 = S.2.2.1 j 0 - 1)) := by
  have same : S.1 = S.1 ∧ S.2.1 = S.2.1 ∧ S.2.2.2 = S.2.2.2 ∧ (∀ j z, z ≠ 0 → S.2.2.1 j z = S.2.2.1 j z) ∧ (∀ j, S.2.2.1 j 0 = S.2.2.1 j 0 ∨ (S.2.2.1 j 1 = 0 ∧ ¬ S.2.2.1 j 0 ≤ 1 ∧ j = k ∧ S.2.2.1 j 0 = S.2.2.1 j 0 - 1)) := ⟨rfl, rfl, rfl, fun _ _ _ => rfl, fun _ => Or.inl rfl⟩
  unfold f_X0_wearOut f_X0_wearOut_b32
  split
  · exact same
  · split
    · rename_i c1
      split
      · exact same
      · rename_i c0
        refine ⟨rfl, rfl, rfl, fun j z hz => ?_, fun j => ?_⟩
        · rw [rdB, if_neg (fun e => hz e.2)]
        · by_cases e : j = k
          · subst e
            right
            exact ⟨c1, c0, rfl, by rw [rdB, if_pos ⟨rfl, rfl⟩]⟩
          · left
            rw [rdB, if_neg (fun y => e y.1)]
    · exact same
theorem wear_all (S : CS) : (itr f_X0_wearOut 3 S).1 = S.1 ∧ (itr f_X0_wearOut 3 S).2.1 = S.2.1 ∧ (itr f_X0_wearOut 3 S).2.2.2 = S.2.2.2 ∧ (∀ j z, z ≠ 0 → (itr f_X0_wearOut 3 S).2.2.1 j z = S.2.2.1 j z) ∧ (∀ j, (itr f_X0_wearOut 3 S).2.2.1 j 0 = S.2.2.1 j 0 ∨ (S.2.2.1 j 1 = 0 ∧ ¬ S.2.2.1 j 0 ≤ 1 ∧ (itr f_X0_wearOut 3 S).2.2.1 j 0 = S.2.2.1 j 0 - 1)) := by
  have h := itP (st := f_X0_wearOut) (B := 3) (S := S) (P := fun k (T : CS) => (T.1 = S.1 ∧ T.2.1 = S.2.1 ∧ T.2.2.2 = S.2.2.2 ∧ (∀ j z, z ≠ 0 → T.2.2.1 j z = S.2.2.1 j z)) ∧ (∀ j, T.2.2.1 j 0 = S.2.2.1 j 0 ∨ (S.2.2.1 j 1 = 0 ∧ ¬ S.2.2.1 j 0 ≤ 1 ∧ j < k ∧ T.2.2.1 j 0 = S.2.2.1 j 0 - 1)) ∧ ∀ j, k ≤ j → T.2.2.1 j 0 = S.2.2.1 j 0) (fun k T hk h => ?_) ⟨⟨rfl, rfl, rfl, fun _ _ _ => rfl⟩, fun _ => Or.inl rfl, fun _ _ => rfl⟩
  · obtain ⟨⟨h1, h2, h3, h4⟩, h5, -⟩ := h
    refine ⟨h1, h2, h3, h4, fun j => ?_⟩
    rcases h5 j with e | ⟨a, b, -, d⟩
    · exact Or.inl e
    · exact Or.inr ⟨a, b, d⟩
  · obtain ⟨⟨h1, h2, h3, h4⟩, h5, h6⟩ := h
    obtain ⟨g1, g2, g3, g4, g5⟩ := wear_1 k T
    refine ⟨⟨g1.trans h1, g2.trans h2, g3.trans h3, fun j z hz => (g4 j z hz).trans (h4 j z hz)⟩, fun j => ?_, fun j hj => ?_⟩
    · rcases g5 j with e | ⟨a, b, e, d⟩
      · rw [e]
        rcases h5 j with e2 | ⟨a2, b2, c2, d2⟩
        · exact Or.inl e2
        · exact Or.inr ⟨a2, b2, by omega, d2⟩
      · subst e
        rw [h4 j 1 (by decide)] at a
        rw [h6 j (Nat.le_refl _)] at b d
        exact Or.inr ⟨a, b, by omega, d⟩
    · rcases g5 j with e | ⟨a, b, e, d⟩
      · rw [e]; exact h6 j (by omega)
      · omega
-- the charges noted ahead
theorem ah_all (S : CS) : (itr ahC 3 S).1 = S.1 ∧ (itr ahC 3 S).2.1 = S.2.1 ∧ (itr ahC 3 S).2.2.2 = S.2.2.2 ∧ (∀ j z, z ≠ 4 → (itr ahC 3 S).2.2.1 j z = S.2.2.1 j z) := by
  refine itP (P := fun _ (T : CS) => T.1 = S.1 ∧ T.2.1 = S.2.1 ∧ T.2.2.2 = S.2.2.2 ∧ (∀ j z, z ≠ 4 → T.2.2.1 j z = S.2.2.1 j z)) (fun k T hk h => ?_) ⟨rfl, rfl, rfl, fun _ _ _ => rfl⟩
  obtain ⟨h1, h2, h3, h4⟩ := h
  refine ⟨h1, h2, h3, fun j z hz => ?_⟩
  unfold ahC
  rw [rdB, if_neg (fun e => hz e.2)]
  exact h4 j z hz
