/-! ===== what the law's helpers rest on ===== -/
def lw (v : Int32) (d : Nat) : Nat := v.toBitVec.toNat % 2 ^ 31 % d
theorem lw_lt (v : Int32) {d : Nat} (h : 0 < d) : lw v d < d := Nat.mod_lt _ h
theorem low_eq {v : Int32} {d : Nat} (h0 : 0 < d) (hd : d < 2 ^ 31) : (v &&& 2147483647) - (v &&& 2147483647) / nI d * nI d = nI (lw v d) := by
  rw [pk_and v (m := 2147483647) 31 (by decide), pk_rem (Nat.mod_lt _ (by decide)) h0 hd]
  rfl
theorem nI_ned {d : Nat} (h0 : 0 < d) (hd : d ≤ 2000) : ¬ nI d = 0 := fun e => by
  rw [i_eq, nI_toInt (by omega), i_0] at e
  omega
/-- what areSums rests on -/
def AS (nl nb : Nat) (f : Int32) (S : CS) : Prop := S.1 3 = nI nl ∧ S.1 4 = nI nb ∧ (∀ k, k < nl → ¬ S.2.1 k 4 < 0 ∧ ¬ S.2.1 k 5 < 0 ∧ ¬ S.1 7 < S.2.1 k 5) ∧ (∀ k, k < nb → ¬ S.2.2.1 k 1 < 0 ∧ ¬ S.2.2.1 k 0 < S.2.2.1 k 1 ∧ ¬ S.2.2.1 k 0 < 1) ∧ sm (enf S) nl = S.1 12 + S.1 13 + S.1 14 ∧ sm (chf S) nb = f + S.1 15 - S.1 14
theorem AS_of {n : Nat × Nat × Nat} {t : Nat} {f : Int32} {S : CS} (ht : t ≤ 2000) (h : JI n t f S) : AS n.1 n.2.1 f S := by
  obtain ⟨⟨⟨c1, c2, c3⟩, hn1, hn2, hn3⟩, hb6, h7, hL, ⟨hB, hB0⟩, hG, hE, hC⟩ := h
  have i1 := i_1
  refine ⟨c1, c2, fun k hk => ?_, fun k hk => ?_, ?_, ?_⟩
  · obtain ⟨-, -, -, -, l5, l6⟩ := hL k
    rw [i_lt, i_lt, i_lt, i_0, h7, nI_toInt (by omega)]
    omega
  · have := hB k
    have h1 := (hB0 k).1 hk
    rw [i_lt, i_lt, i_lt, i_0, i1]
    omega
  · rw [← hE]
    exact sm_ext hn1 (fun j _ => rfl) (fun j h1 _ => ((hL j).2.2.2.1 h1).2)
  · rw [← hC]
    exact sm_ext hn2 (fun j _ => rfl) (fun j h1 _ => ((hB0 j).2 h1).2)
-- what isMinute rests on
def ob6 (a b : Int32) (S : CS) (j : Nat) : Bool := decide (S.2.1 j 6 = a ∧ S.2.1 j 3 = b)
def IM (n : Nat × Nat × Nat) (x : Int32) (S : CS) (v7 v8 v10 : Int32) : Prop := ∃ (S0 : CS) (s : Nat), MF n S0 S s ∧ S0.1 6 = x ∧ v7 = S0.1 12 ∧ v8 = S0.1 13 + S0.1 14 ∧ v10 = nI s ∧ (∀ j, j < n.1 → S0.2.1 j 6 = S0.2.1 j 3) ∧ (∀ j, n.1 ≤ j → S0.2.1 j 3 = 0) ∧ n.1 ≤ 10
theorem hd_0 {S : CS} : ∀ j, j < 0 → S.2.1 j 6 = S.2.1 j 3 := fun j h => absurd h (Nat.not_lt_zero j)
theorem hd_s {S : CS} {k : Nat} (h : ∀ j, j < k → S.2.1 j 6 = S.2.1 j 3) : ∀ j, j < k + 1 → (cuL S k 6 (S.2.1 k 3)).2.1 j 6 = (cuL S k 6 (S.2.1 k 3)).2.1 j 3 := fun j hj => by
  rw [rdL, rdL, if_neg (show ¬ (j = k ∧ (3 : Nat) = 6) by omega)]
  by_cases e : j = k
  · rw [if_pos ⟨e, rfl⟩, e]
  · rw [if_neg (fun y => e y.1)]
    exact h j (by omega)
theorem im_of {n : Nat × Nat × Nat} {t : Nat} {f x : Int32} {S : CS} {k : Nat} (ht : t ≤ 2000) (h : JI n t f S) (h6 : S.1 6 = x) (hd : ∀ j, j < k → S.2.1 j 6 = S.2.1 j 3) (hk : k = n.1) : JI n (t + 1) f (f_X3_pass 1 S).2 ∧ IM n x (f_X3_pass 1 S).2 (S.1 12) (S.1 13 + S.1 14) (f_X3_pass 1 S).1 ∧ (f_X3_pass 1 S).2.1 8 = (if x = 0 then S.1 8 + 1 else 0) := by
  obtain ⟨s, e, hJ, hM⟩ := pass_one ht h
  refine ⟨hJ, ⟨S, s, hM, h6, rfl, rfl, e, fun j hj => hd j (by omega), fun j hj => ((h.2.2.2.1 j).2.2.2.1 hj).1, h.1.2.1⟩, ?_⟩
  rw [hM.2.2.1, h6]
section IMS
variable {n : Nat × Nat × Nat} {x v7 v8 v10 : Int32} {S : CS}
theorem im_z {j : Nat} (h : IM n x S v7 v8 v10) (hj : j < n.1) : S.2.1 j 6 = 0 ↔ S.2.1 j 3 = 0 := by
  obtain ⟨S0, s, ⟨-, -, -, m4, -, -, m7, -⟩, -, -, -, -, hd, -⟩ := h
  rw [m4, hd j hj]
  exact m7 j
theorem im_cnt {a b : Int32} {S0 : CS} {s : Nat} (ha : ¬ (0 : Int32) = a) (hM : MF n S0 S s) (hd : ∀ j, j < n.1 → S0.2.1 j 6 = S0.2.1 j 3) (hz : ∀ j, n.1 ≤ j → S0.2.1 j 3 = 0) (h10 : n.1 ≤ 10) : cnt (ob6 a b S) n.1 = cnt (ob a b S0 S) 10 := by
  refine cnt_ext h10 (fun j hj => ?_) (fun j h1 _ => decide_eq_false (fun z => ha ((hz j h1).symm.trans z.1)))
  unfold ob6 ob
  rw [hM.2.2.2.1, hd j hj]
/-- gone: as many as were shed -/
theorem im_g {v : Int32} {k : Nat} (h : IM n x S v7 v8 v10) (hv : v = nI (cnt (ob6 1 2 S) k)) (hk : k = n.1) : v = v10 := by
  obtain ⟨S0, s, hM, -, -, -, e10, hd, hz, h10⟩ := h
  rw [hv, hk, im_cnt z_ne1 hM hd hz h10, hM.2.2.2.2.2.1, e10]
theorem im_back {v : Int32} {k : Nat} (h : IM n x S v7 v8 v10) (hv : v = nI (cnt (ob6 2 1 S) k)) (hk : k = n.1) : ∃ (S0 : CS) (s : Nat), MF n S0 S s ∧ S0.1 6 = x ∧ v10 = nI s ∧ v = nI (cnt (ob 2 1 S0 S) 10) := by
  obtain ⟨S0, s, hM, e6, -, -, e10, hd, hz, h10⟩ := h
  exact ⟨S0, s, hM, e6, e10, by rw [hv, hk, im_cnt z_ne2 hM hd hz h10]⟩
theorem im_b1 {v : Int32} {k : Nat} (h : IM n x S v7 v8 v10) (hv : v = nI (cnt (ob6 2 1 S) k)) (hk : k = n.1) : ¬ 1 < v := by
  obtain ⟨S0, s, hM, -, -, e⟩ := im_back h hv hk
  have h1 := hM.2.2.2.2.2.2.2.1
  rw [e, i_lt, nI_toInt (by omega), i_1]
  omega
theorem im_b0 {v : Int32} {k : Nat} (h : IM n x S v7 v8 v10) (hv : v = nI (cnt (ob6 2 1 S) k)) (hk : k = n.1) (c : ¬ v = 0) : v10 = 0 := by
  obtain ⟨S0, s, hM, -, e10, e⟩ := im_back h hv hk
  have h1 := hM.2.2.2.2.2.2.2.2.1
  rw [e10]
  by_cases z : s = 0
  · rw [z]; rfl
  · exact absurd (by rw [e, h1 z]; rfl) c
theorem im_u (h : IM n x S v7 v8 v10) (c : ¬ x = 0) : v10 = 0 := by
  obtain ⟨S0, s, hM, e6, -, -, e10, -⟩ := h
  rw [e10, hM.2.2.2.2.1 (by rw [e6]; exact c)]
  rfl
theorem im_n {v : Int32} {k : Nat} (h : IM n x S v7 v8 v10) (hv : v = nI (cnt (ob6 2 1 S) k)) (hk : k = n.1) (hn : n.2.2 ≤ 3) (c1 : ¬ 0 < nI n.2.2) (c2 : x = 0) : v = 0 := by
  obtain ⟨S0, s, hM, e6, -, e⟩ := im_back h hv hk
  rw [i_lt, i_0, nI_toInt (by omega)] at c1
  rw [e, hM.2.2.2.2.2.2.2.2.2.1 (by rw [e6]; exact c2) (by omega)]
  rfl
theorem im_up (h : IM n x S v7 v8 v10) (c : ¬ x = 0) : S.1 12 = v7 + dem S := by
  obtain ⟨S0, s, hM, e6, e7, -⟩ := h
  rw [e7]
  exact hM.2.2.2.2.2.2.2.2.2.2.1 (by rw [e6]; exact c)
theorem im_dn (h : IM n x S v7 v8 v10) (c : x = 0) : S.1 13 + S.1 14 = v8 + dem S ∧ S.1 12 = v7 := by
  obtain ⟨S0, s, hM, e6, e7, e8, -⟩ := h
  obtain ⟨a, b⟩ := hM.2.2.2.2.2.2.2.2.2.2.2 (by rw [e6]; exact c)
  rw [e7, e8]
  exact ⟨b, a⟩
end IMS
theorem cnt_st {P : Nat → Bool} {k : Nat} {v w : Int32} (hv : v = nI (cnt P k)) (hk : k < 10) (q : Prop) {dq : Decidable q} (hq : P k = true ↔ q) (hw : w = @ite _ q dq 1 0) : v + w = nI (cnt P (k + 1)) := by
  show _ = nI (cnt P k + if P k = true then 1 else 0)
  by_cases c : q
  · rw [hv, hw, if_pos c, if_pos (hq.mpr c), nI_succ]
  · rw [hv, hw, if_neg c, if_neg (fun z => c (hq.mp z)), i_add0, Nat.add_zero]
theorem ob6_iff {a b : Int32} {S : CS} {k : Nat} : ob6 a b S k = true ↔ (S.2.1 k 6 = a ∧ S.2.1 k 3 = b) := ⟨fun h => of_decide_eq_true h, fun h => decide_eq_true h⟩
theorem q_demand (l : Launch) (G : WG) (a : Nat → Nat) (ha : wInj 21 a) (S : CS) (sz : Nat) : gMi l yX3_demand wsX3_demand ({ frames := 0, cells := 0, slots := 0, locals := 0 }) G 21 a (CW G.2 a) [.ref (a 0)] S sz (dem S, S) := by
  have h1 := c_X3_demand l G a ha S sz
  rw [demand_eq] at h1
  exact h1
