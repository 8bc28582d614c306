/-! ===== what holds between the calls; a minute keeps it ===== -/
def JC (n : Nat × Nat × Nat) (S : CS) : Prop := (S.1 3 = nI n.1 ∧ S.1 4 = nI n.2.1 ∧ S.1 5 = nI n.2.2) ∧ n.1 ≤ 10 ∧ n.2.1 ≤ 3 ∧ n.2.2 ≤ 3
def JL (n : Nat × Nat × Nat) (t : Nat) (S : CS) : Prop := ∀ k, (S.2.1 k 3 = 0 ∨ S.2.1 k 3 = 1 ∨ S.2.1 k 3 = 2) ∧ (0 ≤ (S.2.1 k 2).toInt ∧ (S.2.1 k 2).toInt ≤ 500) ∧ (k < n.1 → 1 ≤ (S.2.1 k 2).toInt) ∧ (n.1 ≤ k → S.2.1 k 3 = 0 ∧ S.2.1 k 4 = 0) ∧ (0 ≤ (S.2.1 k 4).toInt ∧ (S.2.1 k 4).toInt ≤ 500 * (t : Int)) ∧ (0 ≤ (S.2.1 k 5).toInt ∧ (S.2.1 k 5).toInt ≤ (t : Int))
def JB (n : Nat × Nat × Nat) (S : CS) : Prop := BT S ∧ ∀ k, (k < n.2.1 → 1 ≤ (S.2.2.1 k 0).toInt) ∧ (n.2.1 ≤ k → S.2.2.1 k 0 = 0 ∧ S.2.2.1 k 1 = 0)
def JG (n : Nat × Nat × Nat) (S : CS) : Prop := (∀ k, 0 ≤ (S.2.2.2 k 0).toInt ∧ (S.2.2.2 k 0).toInt ≤ 1000) ∧ ∀ k, n.2.2 ≤ k → S.2.2.2 k 3 = 0 ∧ S.2.2.2 k 4 = 0
abbrev enf (S : CS) : Nat → Int32 := fun k => S.2.1 k 4
def JI (n : Nat × Nat × Nat) (t : Nat) (f : Int32) (S : CS) : Prop := JC n S ∧ isB (S.1 6) ∧ S.1 7 = nI t ∧ JL n t S ∧ JB n S ∧ JG n S ∧ sm (enf S) 10 = S.1 12 + S.1 13 + S.1 14 ∧ sm (chf S) 3 = f + S.1 15 - S.1 14
/-- what a minute does: s loads shed -/
def MF (n : Nat × Nat × Nat) (S T : CS) (s : Nat) : Prop := s ≤ 10 ∧ T.1 6 = S.1 6 ∧ T.1 8 = (if S.1 6 = 0 then S.1 8 + 1 else 0) ∧ (∀ j, T.2.1 j 6 = S.2.1 j 6) ∧ (S.1 6 ≠ 0 → s = 0) ∧ cnt (ob 1 2 S T) 10 = s ∧ (∀ j, S.2.1 j 3 = 0 ↔ T.2.1 j 3 = 0) ∧ cnt (ob 2 1 S T) 10 ≤ 1 ∧ (s ≠ 0 → cnt (ob 2 1 S T) 10 = 0) ∧ (S.1 6 = 0 → n.2.2 = 0 → cnt (ob 2 1 S T) 10 = 0) ∧
  (S.1 6 ≠ 0 → T.1 12 = S.1 12 + dem T) ∧ (S.1 6 = 0 → T.1 12 = S.1 12 ∧ T.1 13 + T.1 14 = S.1 13 + S.1 14 + dem T)
theorem sm_add {g h k : Nat → Int32} : ∀ {m : Nat}, (∀ j, j < m → k j = g j + h j) → sm k m = sm g m + sm h m := by
  intro m
  induction m with
  | zero => intro _; rfl
  | succ m ih =>
    intro e
    show sm k m + k m = sm g m + g m + (sm h m + h m)
    rw [ih (fun j hj => e j (by omega)), e m (by omega)]
    grind
theorem z_ne1 : ¬ (0 : Int32) = 1 := by decide
theorem z_ne2 : ¬ (0 : Int32) = 2 := by decide
theorem o_ne0 : ¬ (1 : Int32) = 0 := by decide
theorem t_ne0 : ¬ (2 : Int32) = 0 := by decide
/-- the minute up to the serving: the loads' states are set -/
def UP (n : Nat × Nat × Nat) (S V : CS) (s : Nat) : Prop := (∀ j, j ≠ 7 → j ≠ 8 → j ≠ 11 → V.1 j = S.1 j) ∧ V.1 7 = S.1 7 + 1 ∧ V.1 8 = (if S.1 6 = 0 then S.1 8 + 1 else 0) ∧ (∀ j z, z ≠ 3 → V.2.1 j z = S.2.1 j z) ∧ (∀ j z, z ≠ 4 → V.2.2.1 j z = S.2.2.1 j z) ∧ (∀ j, V.2.2.2 j 0 = S.2.2.2 j 0) ∧ (∀ j, j < 3 → V.2.2.2 j 8 = 0) ∧ (∀ j, n.2.2 ≤ j → V.2.2.2 j 3 = 0 ∧ V.2.2.2 j 4 = 0) ∧
  s ≤ 10 ∧ (S.1 6 ≠ 0 → s = 0) ∧ cnt (ob 1 2 S V) 10 = s ∧ (∀ j, S.2.1 j 3 = 0 ↔ V.2.1 j 3 = 0) ∧ (∀ j, V.2.1 j 3 = 0 ∨ V.2.1 j 3 = 1 ∨ V.2.1 j 3 = 2) ∧ cnt (ob 2 1 S V) 10 ≤ 1 ∧ (s ≠ 0 → cnt (ob 2 1 S V) 10 = 0) ∧ (S.1 6 = 0 → n.2.2 = 0 → cnt (ob 2 1 S V) 10 = 0) ∧ (S.1 6 = 0 → (dem V).toInt ≤ (gpw V).toInt + (bpw V).toInt)
theorem nI_z {s : Nat} (hs : s ≤ 10) : nI s = 0 ↔ s = 0 := by
  rw [i_eq, nI_toInt (by omega), i_0]
  omega
theorem up_all {n : Nat × Nat × Nat} {t : Nat} {f : Int32} {S : CS} (h : JI n t f S) : ∃ (s : Nat) (V : CS), f_X3_passOneMinute S = f_X3_passOneMinute_b95 V (nI s) ∧ UP n S V s := by
  obtain ⟨⟨-, hn1, hn2, hn3⟩, -, -, hL, ⟨hB, -⟩, ⟨hG, hG0⟩, -, -⟩ := h
  rw [ahC_lp]
  obtain ⟨a1, a2, a3, a4⟩ := ah_all S
  generalize itr ahC 3 S = A at a1 a2 a3 a4
  unfold f_X3_passOneMinute_b64
  obtain ⟨m1, m2, m3, m4, m5, m6⟩ := mv_all (cuM (cuM A 7 (S.1 7 + 1)) 8 (if S.1 6 = 0 then S.1 8 + 1 else 0))
  generalize f_X3_moveGenerators (cuM (cuM A 7 (S.1 7 + 1)) 8 (if S.1 6 = 0 then S.1 8 + 1 else 0)) = M at m1 m2 m3 m4 m5 m6
  have M1 : ∀ j, M.1 j = if j = 8 then (if S.1 6 = 0 then S.1 8 + 1 else 0) else if j = 7 then S.1 7 + 1 else S.1 j := fun j => by rw [m1, rdM, rdM, a1]
  have M2 : M.2.1 = S.2.1 := m2.trans a2
  have M3 : ∀ j z, z ≠ 4 → M.2.2.1 j z = S.2.2.1 j z := fun j z hz => by
    rw [m3]
    exact a4 j z hz
  have M4 : ∀ j, M.2.2.2 j 0 = S.2.2.2 j 0 := fun j => by
    rw [m4]
    show A.2.2.2 j 0 = _
    rw [a3]
  have M6 : ∀ j, n.2.2 ≤ j → M.2.2.2 j 3 = 0 ∧ M.2.2.2 j 4 = 0 := fun j hj => m6 j (by show A.2.2.2 j 3 = 0; rw [a3]; exact (hG0 j hj).1) (by show A.2.2.2 j 4 = 0; rw [a3]; exact (hG0 j hj).2)
  have e6 : M.1 6 = S.1 6 := by rw [M1, if_neg (by decide), if_neg (by decide)]
  have gM : ∀ k, 0 ≤ (M.2.2.2 k 0).toInt ∧ (M.2.2.2 k 0).toInt ≤ 1000 := fun k => by rw [M4]; exact hG k
  have bM : ∀ k, 0 ≤ (M.2.2.1 k 1).toInt ∧ 0 ≤ (M.2.2.1 k 2).toInt ∧ (M.2.2.1 k 2).toInt ≤ 500 := fun k => by
    rw [M3 k 1 (by decide), M3 k 2 (by decide)]
    exact ⟨(hB k).1.1, (hB k).2.1.1, (hB k).2.1.2⟩
  -- the shedding
  have sh : ∃ (s : Nat) (U : CS), f_X3_passOneMinute_c68 M = f_X3_passOneMinute_b86 U (nI s) ∧ s ≤ 10 ∧ (S.1 6 ≠ 0 → s = 0) ∧ SH M s U ∧ (S.1 6 = 0 → (dem U).toInt ≤ (gpw M).toInt + (bpw M).toInt) := by
    unfold f_X3_passOneMinute_c68
    by_cases c : S.1 6 = 0
    · rw [if_pos (e6.trans c)]
      obtain ⟨s, U, x1, x2, x3, x4⟩ := shed_all gM bM
      rw [x1]
      exact ⟨s, U, rfl, x2, fun z => absurd c z, x3, fun _ => x4⟩
    · rw [if_neg (fun z => c (e6.symm.trans z))]
      exact ⟨0, M, rfl, by omega, fun _ => rfl, SH_0 M, fun z => absurd z c⟩
  obtain ⟨s, U, x1, x2, x3, ⟨u1, u2, u3, u4, u5⟩, x5⟩ := sh
  rw [x1]
  refine ⟨s, ?_⟩
  have U1 : ∀ j, U.1 j = if j = 8 then (if S.1 6 = 0 then S.1 8 + 1 else 0) else if j = 7 then S.1 7 + 1 else S.1 j := fun j => by rw [u1]; exact M1 j
  have uG : U.2.2.2 = M.2.2.2 := by rw [u2]
  have uB : U.2.2.1 = M.2.2.1 := by rw [u2]
  have U2 : ∀ j z, z ≠ 3 → U.2.1 j z = S.2.1 j z := fun j z hz => by rw [u3 j z hz, M2]
  have U3 : ∀ j, U.2.1 j 3 = S.2.1 j 3 ∨ (S.2.1 j 3 = 1 ∧ U.2.1 j 3 = 2) := fun j => by
    have := u4 j
    rw [M2] at this
    exact this
  have U5 : cnt (ob 1 2 S U) 10 = s := by
    rw [← u5]
    exact cnt_congr (fun j _ => by unfold ob; rw [M2])
  have gU : gpw U = gpw M := by unfold gpw; rw [uG]
  have bU : bpw U = bpw M := by unfold bpw; rw [uB]
  have no21 : ∀ j, ob 2 1 S U j = false := fun j => decide_eq_false (fun hh => by
    rcases U3 j with e | e
    · rw [e, hh.1] at hh; exact two_one hh.2
    · exact two_one (hh.1.symm.trans e.1))
  have pU : PW U := fun k => by rw [U2 k 2 (by decide)]; exact (hL k).2.1
  have base : ∀ V : CS, V = U → UP n S V s := fun V e => by
    subst e
    refine ⟨fun j p1 p2 _ => by rw [U1, if_neg p2, if_neg p1], by rw [U1, if_neg (by decide), if_pos rfl], by rw [U1, if_pos rfl], U2, fun j z hz => by rw [uB]; exact M3 j z hz, fun j => by rw [uG]; exact M4 j, fun j hj => by rw [uG]; exact m5 j hj, fun j hj => by rw [uG]; exact M6 j hj, x2, x3, U5, fun j => ?_, fun j => ?_, ?_, fun _ => cnt_zero.mpr (fun j _ => no21 j), fun _ _ => cnt_zero.mpr (fun j _ => no21 j), fun c => by rw [gU, bU]; exact x5 c⟩
    · rcases U3 j with e | e
      · rw [e]
      · rw [e.1, e.2]
        exact ⟨fun z => absurd z o_ne0, fun z => absurd z t_ne0⟩
    · rcases U3 j with e | e
      · rw [e]; exact (hL j).1
      · exact Or.inr (Or.inr e.2)
    · rw [cnt_zero.mpr (fun j _ => no21 j)]
      omega
  unfold f_X3_passOneMinute_b86
  by_cases cs : s = 0
  · rw [if_pos ((nI_z x2).mpr cs)]
    rcases ret_all U with e | ⟨j0, j1, j2, j3, j4⟩
    · exact ⟨U, by unfold f_X3_passOneMinute_c92; rw [e], base U rfl⟩
    · refine ⟨_, rfl, ?_⟩
      rw [j3]
      have eq3 : ∀ j, j < 10 → U.2.1 j 3 = S.2.1 j 3 := fun j hj => by
        rcases U3 j with e | e
        · exact e
        · exfalso
          rw [cs] at U5
          exact absurd (decide_eq_true e) (by have := cnt_zero.mp U5 j hj; unfold ob at this; rw [this]; decide)
      have S3 : S.2.1 j0 3 = 2 := (eq3 j0 j1).symm.trans j2
      have hj0 : j0 < n.1 := by
        rcases Nat.lt_or_ge j0 n.1 with z | z
        · exact z
        · exact absurd (((hL j0).2.2.2.1 z).1.symm.trans S3) z_ne2
      have V3 : ∀ j, (cuM (cuL U j0 3 1) 11 (U.1 7)).2.1 j 3 = if j = j0 then 1 else U.2.1 j 3 := fun j => by
        show (cuL U j0 3 1).2.1 j 3 = _
        rw [rdL]
        by_cases e : j = j0
        · rw [if_pos ⟨e, rfl⟩, if_pos e]
        · rw [if_neg (fun y => e y.1), if_neg e]
      have hp0 := (hL j0).2.2.1 hj0
      have d1 := dem_bd pU
      have eD : dem (cuM (cuL U j0 3 1) 11 (U.1 7)) = dem U + U.2.1 j0 2 := by
        have := dem_st (S := U) (j := j0) (v := 1) j1
        rw [if_pos rfl, j2, if_neg two_one, r_sub0] at this
        exact this
      have p0 := pU j0
      have eA : (dem U + U.2.1 j0 2).toInt = (dem U).toInt + (U.2.1 j0 2).toInt := i_add (by omega)
      have eG : gpw (cuM (cuL U j0 3 1) 11 (U.1 7)) = gpw U := rfl
      have eB : bpw (cuM (cuL U j0 3 1) 11 (U.1 7)) = bpw U := rfl
      have bb := bpw_bd (S := U) (fun k => by rw [uB]; exact bM k)
      have le1 : S.1 6 = 0 → (dem U).toInt + (U.2.1 j0 2).toInt ≤ (gpw U).toInt := fun c => by
        have hh := j4 (by rw [U1, if_neg (by decide), if_neg (by decide)]; exact c)
        rw [i_lt, eA] at hh
        omega
      have ob21 : cnt (ob 2 1 S (cuM (cuL U j0 3 1) 11 (U.1 7))) 10 = 1 := by
        have e9 := cnt_upd (P := ob 2 1 S U) (P' := ob 2 1 S (cuM (cuL U j0 3 1) 11 (U.1 7))) (j := j0) (m := 10) j1 (fun i _ hi => by unfold ob; rw [V3, if_neg hi]) (no21 j0) (decide_eq_true ⟨S3, by rw [V3, if_pos rfl]⟩)
        rw [e9, cnt_zero.mpr (fun j _ => no21 j)]
      refine ⟨fun j p1 p2 p3 => ?_, ?_, ?_, fun j z hz => ?_, fun j z hz => by show U.2.2.1 j z = _; rw [uB]; exact M3 j z hz, fun j => by show U.2.2.2 j 0 = _; rw [uG]; exact M4 j, fun j hj => by show U.2.2.2 j 8 = _; rw [uG]; exact m5 j hj, fun j hj => by show U.2.2.2 j 3 = 0 ∧ U.2.2.2 j 4 = 0; rw [uG]; exact M6 j hj, x2, x3, ?_, fun j => ?_, fun j => ?_, ?_, fun z => absurd cs z, fun c c0 => ?_, fun c => ?_⟩
      · rw [rdM, if_neg p3]
        show U.1 j = _
        rw [U1, if_neg p2, if_neg p1]
      · rw [rdM, if_neg (by decide)]
        show U.1 7 = _
        rw [U1, if_neg (by decide), if_pos rfl]
      · rw [rdM, if_neg (by decide)]
        show U.1 8 = _
        rw [U1, if_pos rfl]
      · show (cuL U j0 3 1).2.1 j z = _
        rw [rdL, if_neg (fun y => hz y.2)]
        exact U2 j z hz
      · rw [cs]
        refine cnt_zero.mpr (fun j hj => decide_eq_false (fun hh => ?_))
        obtain ⟨h1, h2⟩ := hh
        rw [V3] at h2
        by_cases e : j = j0
        · rw [if_pos e] at h2; exact one_two h2
        · rw [if_neg e, eq3 j hj, h1] at h2; exact one_two h2
      · rw [V3]
        by_cases e : j = j0
        · rw [if_pos e, e, S3]
          exact ⟨fun z => absurd z t_ne0, fun z => absurd z o_ne0⟩
        · rw [if_neg e]
          rcases U3 j with y | y
          · rw [y]
          · rw [y.1, y.2]
            exact ⟨fun z => absurd z o_ne0, fun z => absurd z t_ne0⟩
      · rw [V3]
        by_cases e : j = j0
        · rw [if_pos e]; exact Or.inr (Or.inl rfl)
        · rw [if_neg e]
          rcases U3 j with y | y
          · rw [y]; exact (hL j).1
          · exact Or.inr (Or.inr y.2)
      · rw [ob21]
        omega
      · exfalso
        have g0 : gpw U = 0 := sm_zero (fun k _ => by
          unfold gvs
          rw [if_neg]
          intro y
          have := (M6 k (by omega)).2
          rw [uG] at y
          exact z_ne2 (this.symm.trans y.1))
        have hh := le1 c
        rw [g0, i_0] at hh
        rw [U2 j0 2 (by decide)] at hh
        omega
      · rw [eD, eA, eG, eB]
        have := le1 c
        omega
  · rw [if_neg (fun z => cs ((nI_z x2).mp z))]
    exact ⟨U, rfl, base U rfl⟩
