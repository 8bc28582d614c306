/-! ===== what the law's helpers answer ===== -/
theorem ar_78 {x2 x3 : Nat} {x4 : Int32} : ∀ (q k : Nat) (S : CS) (v : Int32), k ≤ x3 → x3 < k + q → f_L_areSums_h78 x2 x3 x4 q k S v = (1, S) := by
  intro q
  induction q with
  | zero => intro k S v h1 h2; omega
  | succ q ih =>
    intro k S v h1 h2
    rw [f_L_areSums_h78]
    by_cases hk : x3 ≤ k
    · rw [if_pos hk]; rfl
    · rw [if_neg hk]
      exact ih (k + 1) S v (by omega) (by omega)
theorem ar_9 {x2 x3 : Nat} {x4 : Int32} : ∀ (q k : Nat) (S : CS) (v : Int32), k ≤ x2 → x2 < k + q → f_L_areSums_h9 x2 x3 x4 q k S v = (1, S) := by
  intro q
  induction q with
  | zero => intro k S v h1 h2; omega
  | succ q ih =>
    intro k S v h1 h2
    rw [f_L_areSums_h9]
    by_cases hk : x2 ≤ k
    · rw [if_pos hk]
      exact ar_78 (x3 + 1) 0 S v (Nat.zero_le _) (by omega)
    · rw [if_neg hk]
      exact ih (k + 1) S _ (by omega) (by omega)
theorem ar_all (x2 x3 : Nat) (x4 : Int32) (S : CS) : f_L_areSums x2 x3 x4 S = (1, S) := ar_9 (x2 + 1) 0 S 0 (Nat.zero_le _) (by omega)
theorem mi_st {x3 x4 x5 t9 : Nat} {x6 f9 : Int32} {K : Nat → CS → Int32 → Int32 → Int32 → Int32 → Int32 → Int32 × CS} {k : Nat} {S : CS} {v7 v8 v10 v12 v15 w0 w1 : Int32} {R : Int32 × CS} (h : ∀ a b, K (k + 1) S v7 v8 v10 a b = R) : f_L_isMinute_b129 x3 x4 x5 x6 t9 f9 K k S v7 v8 v10 v12 v15 w0 w1 = R := by
  unfold f_L_isMinute_b129 f_L_isMinute_b152 f_L_isMinute_b153 f_L_isMinute_b173 f_L_isMinute_b183 f_L_isMinute_b191
  simp only [h, ite_self]
theorem mi_94 {x3 x4 x5 t9 : Nat} {x6 f9 : Int32} : ∀ (q k : Nat) (S : CS) (v7 v8 v10 v11 v12 : Int32), k ≤ x3 → x3 < k + q → f_L_isMinute_h94 x3 x4 x5 x6 t9 f9 q k S v7 v8 v10 v11 v12 = (1, S) := by
  intro q
  induction q with
  | zero => intro k S v7 v8 v10 v11 v12 h1 h2; omega
  | succ q ih =>
    intro k S v7 v8 v10 v11 v12 h1 h2
    rw [f_L_isMinute_h94]
    by_cases hk : x3 ≤ k
    · rw [if_pos hk]
      unfold f_L_isMinute_b233 f_L_isMinute_b243 f_L_isMinute_b248 f_L_isMinute_b301 f_L_isMinute_b316 f_L_isMinute_b321
      simp only [ite_self]
    · rw [if_neg hk]
      have h9 : ∀ a b, f_L_isMinute_h94 x3 x4 x5 x6 t9 f9 q (k + 1) S v7 v8 v10 a b = (1, S) := fun a b => ih (k + 1) S v7 v8 v10 a b (by omega) (by omega)
      unfold f_L_isMinute_b128
      simp only [mi_st h9, ite_self]
theorem mi_6 {x3 x4 x5 t9 : Nat} {x6 f9 : Int32} {n : Nat × Nat × Nat} {t : Nat} {f x : Int32} (ht : t ≤ 2000) : ∀ (q k : Nat) (S : CS), k ≤ x3 → x3 < k + q → JI n t f S → S.1 6 = x → ∃ T, f_L_isMinute_h6 x3 x4 x5 x6 t9 f9 q k S = (1, T) ∧ JI n (t + 1) f T ∧ T.1 6 = x := by
  intro q
  induction q with
  | zero => intro k S h1 h2; omega
  | succ q ih =>
    intro k S h1 h2 hI h6
    rw [f_L_isMinute_h6]
    by_cases hk : x3 ≤ k
    · rw [if_pos hk]
      unfold f_L_isMinute_c53 f_L_isMinute_b81 f_L_isMinute_b89
      rw [mi_94 (x3 + 1) 0 _ _ _ _ _ _ (Nat.zero_le _) (by omega), ite_self]
      obtain ⟨s, -, hJ, hM⟩ := pass_one ht hI
      exact ⟨_, rfl, hJ, hM.2.1.trans h6⟩
    · rw [if_neg hk]
      exact ih (k + 1) _ (by omega) (by omega) (JI_hd hI) h6
theorem mi_all {n : Nat × Nat × Nat} {t : Nat} {f x6 : Int32} {S : CS} (ht : t ≤ 2000) (hI : JI n t f S) : ∃ T, f_L_isMinute n.1 n.2.1 n.2.2 x6 t f S = (1, T) ∧ JI n (t + 1) f T ∧ T.1 6 = S.1 6 := mi_6 ht (n.1 + 1) 0 S (Nat.zero_le _) (by omega) hI rfl
theorem q_areSums (l : Launch) (G : WG) (a : Nat → Nat) (ha : wInj 21 a) (x2 : Nat) (hx2 : x2 ≤ 10) (x3 : Nat) (hx3 : x3 ≤ 3) (x4 : Int32) (S : CS) (hA : AS x2 x3 x4 S) (sz : Nat) : gMz l yL_areSums wsL_areSums ({ frames := 3, cells := 0, slots := 0, locals := 65 }) G 21 a (CW G.2 a) [.ref (a 0), .int (nI x2), .int (nI x3), .int x4] S sz (1, S) := by
  have h1 := c_L_areSums l G a ha x2 hx2 x3 hx3 x4 S hA sz
  rw [ar_all] at h1
  exact h1
theorem mi_c (l : Launch) (G : WG) (a : Nat → Nat) (ha : wInj 21 a) {n : Nat × Nat × Nat} {t : Nat} {f x : Int32} {S T : CS} {sz : Nat} (hx : isB x) (ht : t ≤ 2000) (hI : JI n t f S) (h6 : S.1 6 = x) (e : f_L_isMinute n.1 n.2.1 n.2.2 x t f S = (1, T)) : gMz l yL_isMinute wsL_isMinute ({ frames := 6, cells := 0, slots := 0, locals := 141 }) G 21 a (CW G.2 a) [.ref (a 0), .ref (a 20), .int (nI n.1), .int (nI n.2.1), .int (nI n.2.2), .int x] S sz (1, T) := by
  have h1 := c_L_isMinute l G a ha n.1 hI.1.2.1 n.2.1 hI.1.2.2.1 n.2.2 hI.1.2.2.2 x hx t ht f S hI h6 sz
  rw [e] at h1
  exact h1
