/-! ===== serving and charging, whole ===== -/
theorem pl_gv {S : CS} (h : ∀ k, k < 3 → S.2.2.2 k 8 = 0) : sm (pl S) 3 = gpw S := sm_congr (fun j hj => by
  unfold pl gvs
  rw [h j hj, r_sub0])
theorem serve_all {S : CS} (hp : PW S) (hb : BT S) (hg : GV S) (h8 : ∀ k, k < 3 → S.2.2.2 k 8 = 0) (hd : S.1 6 = 0 → (dem S).toInt ≤ (gpw S).toInt + (bpw S).toInt) :
    (∀ j, j ≠ 12 → j ≠ 13 → j ≠ 14 → (f_X3_serveLoads S).1 j = S.1 j) ∧ SV 10 S (f_X3_serveLoads S) ∧ (∀ j z, z ≠ 8 → (f_X3_serveLoads S).2.2.2 j z = S.2.2.2 j z) ∧ GV (f_X3_serveLoads S) ∧ (∀ j z, z ≠ 1 → (f_X3_serveLoads S).2.2.1 j z = S.2.2.1 j z) ∧ (∀ j, 0 ≤ ((f_X3_serveLoads S).2.2.1 j 1).toInt ∧ ((f_X3_serveLoads S).2.2.1 j 1).toInt ≤ (S.2.2.1 j 1).toInt) ∧
    sm (chf (f_X3_serveLoads S)) 3 + ((f_X3_serveLoads S).1 14 - S.1 14) = sm (chf S) 3 ∧
    (S.1 6 ≠ 0 → (f_X3_serveLoads S).1 12 = S.1 12 + dem S ∧ (f_X3_serveLoads S).1 13 = S.1 13 ∧ (f_X3_serveLoads S).1 14 = S.1 14) ∧ (S.1 6 = 0 → (f_X3_serveLoads S).1 12 = S.1 12 ∧ (f_X3_serveLoads S).1 13 + (f_X3_serveLoads S).1 14 = S.1 13 + S.1 14 + dem S) := by
  have hdem := dem_bd hp
  have hbp := bpw_bd (S := S) (fun k => ⟨(hb k).1.1, (hb k).2.1.1, (hb k).2.1.2⟩)
  rw [svC_lp]
  obtain ⟨s1, s2, s3, s4⟩ := sv_loop S
  generalize itr svC 10 (S, 0) = w at s1 s2 s3 s4
  obtain ⟨U, v⟩ := w
  dsimp only at s1 s2 s3 s4 ⊢
  subst s4
  have sG : U.2.2.2 = S.2.2.2 := by rw [s2]
  have sB : U.2.2.1 = S.2.2.1 := by rw [s2]
  rw [s1]
  by_cases c : S.1 6 = 0
  · rw [if_pos c]
    have gU : GV U := by unfold GV; rw [sG]; exact hg
    have bU : BT U := by unfold BT; rw [sB]; exact hb
    have epl : sm (pl U) 3 = gpw S := by
      rw [← pl_gv h8]
      exact sm_congr (fun j _ => by unfold pl; rw [sG])
    have ebp : bpw U = bpw S := by unfold bpw; rw [sB]
    obtain ⟨d1, d2, d3, d4⟩ := dr_fr (dem S) U
    obtain ⟨d5, d6, d7⟩ := dr_all (x := dem S) (S := U) (by omega) gU
    rw [epl] at d7
    unfold f_X3_serveLoads_c106
    generalize f_X3_drawFromGenerators (dem S) U = p at d1 d2 d3 d4 d5 d6 d7 ⊢
    obtain ⟨g, P⟩ := p
    dsimp only at d1 d2 d3 d4 d5 d6 d7 ⊢
    have eI : (dem S - g).toInt = (dem S).toInt - g.toInt := i_sub (by omega) (by omega)
    have bP : BT (cuM P 13 (P.1 13 + g)) := by
      have e9 : (cuM P 13 (P.1 13 + g)).2.2.1 = U.2.2.1 := d3
      unfold BT
      rw [e9]
      exact bU
    obtain ⟨q1, q2, q3, q4, q5, q6, q7, q8⟩ := db_all (x := dem S - g) (S := cuM P 13 (P.1 13 + g)) (by omega) bP
    have ebq : bpw (cuM P 13 (P.1 13 + g)) = bpw S := by
      rw [← ebp]
      unfold bpw
      show sm (fun k => mn (P.2.2.1 k 2) (P.2.2.1 k 1)) 3 = _
      rw [d3]
    rw [ebq] at q7
    have ech : sm (chf (cuM P 13 (P.1 13 + g))) 3 = sm (chf S) 3 := by
      show sm (fun k => P.2.2.1 k 1) 3 = _
      rw [d3, sB]
    rw [ech] at q6
    have eB1 : ∀ k z, (cuM P 13 (P.1 13 + g)).2.2.1 k z = S.2.2.1 k z := fun k z => by
      show P.2.2.1 k z = _
      rw [d3, sB]
    unfold f_X3_serveLoads_c129
    generalize f_X3_drawFromBatteries (dem S - g) (cuM P 13 (P.1 13 + g)) = r at q1 q2 q3 q4 q5 q6 q7 q8 ⊢
    obtain ⟨b, T⟩ := r
    dsimp only at q1 q2 q3 q4 q5 q6 q7 q8 ⊢
    have eb : b = dem S - g := by
      rw [i_eq]
      have := hd c
      omega
    have r1 : ∀ j, (cuM T 14 ((cuM P 13 (P.1 13 + g)).1 14 + b)).1 j = if j = 14 then S.1 14 + b else if j = 13 then S.1 13 + g else S.1 j := fun j => by
      rw [rdM, q1, rdM, rdM, if_neg (show ¬ (14 : Nat) = 13 by decide), d1, s1]
    have rG : (cuM T 14 ((cuM P 13 (P.1 13 + g)).1 14 + b)).2.2.2 = P.2.2.2 := q3
    have rL : (cuM T 14 ((cuM P 13 (P.1 13 + g)).1 14 + b)).2.1 = U.2.1 := q2.trans d2
    have rB : (cuM T 14 ((cuM P 13 (P.1 13 + g)).1 14 + b)).2.2.1 = T.2.2.1 := rfl
    refine ⟨fun j a1 a2 a3 => ?_, ?_, fun j z hz => ?_, ?_, fun j z hz => ?_, fun j => ?_, ?_, fun z => absurd c z, fun _ => ⟨?_, ?_⟩⟩
    · rw [r1, if_neg a3, if_neg a2]
    · unfold SV
      rw [rL]
      exact s3
    · rw [rG, d4 j z hz, sG]
    · unfold GV
      rw [rG]
      exact d5
    · rw [rB, q4 j z hz, eB1]
    · rw [rB]
      have := q5 j
      rw [eB1] at this
      exact this
    · show sm (fun k => T.2.2.1 k 1) 3 + _ = _
      rw [r1, if_pos rfl]
      show sm (chf T) 3 + _ = _
      rw [q6]
      grind
    · rw [r1, if_neg (by decide), if_neg (by decide)]
    · rw [r1, r1, if_neg (by decide), if_pos rfl, if_pos rfl, eb]
      grind
  · rw [if_neg c]
    have r1 : ∀ j, (cuM U 12 (S.1 12 + dem S)).1 j = if j = 12 then S.1 12 + dem S else S.1 j := fun j => by rw [rdM, s1]
    have rG : (cuM U 12 (S.1 12 + dem S)).2.2.2 = S.2.2.2 := sG
    have rB : (cuM U 12 (S.1 12 + dem S)).2.2.1 = S.2.2.1 := sB
    refine ⟨fun j a1 a2 a3 => ?_, s3, fun j z hz => by rw [rG], ?_, fun j z hz => by rw [rB], fun j => by rw [rB]; exact ⟨(hb j).1.1, Int.le_refl _⟩, ?_, fun _ => ⟨?_, ?_, ?_⟩, fun z => absurd z c⟩
    · rw [r1, if_neg a1]
    · unfold GV
      rw [rG]
      exact hg
    · show sm (fun k => (cuM U 12 (S.1 12 + dem S)).2.2.1 k 1) 3 + _ = _
      rw [rB, r1, if_neg (by decide)]
      grind
    · rw [r1, if_pos rfl]
    · rw [r1, if_neg (by decide)]
    · rw [r1, if_neg (by decide)]
theorem chg_h {S : CS} : ∀ (q k : Nat) (v : Int32), k ≤ 3 → 3 < k + q → v = sm (pl S) k → f_X3_chargeBatteries_h37 q k S v = f_X3_chargeBatteries_c65 (f_X3_fillBatteries (sm (pl S) 3) S) := by
  intro q
  induction q with
  | zero => intro k v h1 h2; omega
  | succ q ih =>
    intro k v h1 h2 e
    rw [f_X3_chargeBatteries_h37]
    by_cases hk : 3 ≤ k
    · have ek : k = 3 := by omega
      subst ek
      rw [if_pos hk, e]
    · rw [if_neg hk, pLeft_eq]
      exact ih (k + 1) _ (by omega) (by omega) (by rw [e]; rfl)
theorem charge_all {S : CS} (hb : BT S) (hg : GV S) : (∀ j, j ≠ 15 → (f_X3_chargeBatteries S).1 j = S.1 j) ∧ (f_X3_chargeBatteries S).2.1 = S.2.1 ∧ (∀ j z, z ≠ 8 → (f_X3_chargeBatteries S).2.2.2 j z = S.2.2.2 j z) ∧ (∀ j z, z ≠ 1 → (f_X3_chargeBatteries S).2.2.1 j z = S.2.2.1 j z) ∧ (∀ j, (S.2.2.1 j 1).toInt ≤ ((f_X3_chargeBatteries S).2.2.1 j 1).toInt ∧ ((f_X3_chargeBatteries S).2.2.1 j 1).toInt ≤ (S.2.2.1 j 0).toInt) ∧
    sm (chf (f_X3_chargeBatteries S)) 3 = sm (chf S) 3 + ((f_X3_chargeBatteries S).1 15 - S.1 15) := by
  unfold f_X3_chargeBatteries
  by_cases c : S.1 6 = 0
  · rw [if_pos c, chg_h 4 0 0 (by omega) (by omega) rfl]
    have hl := sm_bd (g := pl S) (m := 3) (B := 1000) (by omega) (by omega) (fun j hj => ⟨(pl_bd hg hj).1, (pl_bd hg hj).2.1⟩)
    obtain ⟨q1, q2, q3, q4, q5, q6⟩ := fi_all (x := sm (pl S) 3) (S := S) (by omega) hb
    unfold f_X3_chargeBatteries_c65
    generalize f_X3_fillBatteries (sm (pl S) 3) S = p at q1 q2 q3 q4 q5 q6 ⊢
    obtain ⟨f, P⟩ := p
    dsimp only at q1 q2 q3 q4 q5 q6 ⊢
    obtain ⟨d1, d2, d3, d4⟩ := dr_fr f P
    unfold f_X3_chargeBatteries_c71
    generalize f_X3_drawFromGenerators f P = r at d1 d2 d3 d4 ⊢
    obtain ⟨g, T⟩ := r
    dsimp only at d1 d2 d3 d4 ⊢
    have r1 : ∀ j, (cuM T 15 (T.1 15 + f)).1 j = if j = 15 then S.1 15 + f else S.1 j := fun j => by rw [rdM, d1, q1]
    have rB : (cuM T 15 (T.1 15 + f)).2.2.1 = P.2.2.1 := d3
    refine ⟨fun j hj => by rw [r1, if_neg hj], d2.trans q2, fun j z hz => ?_, fun j z hz => by rw [rB]; exact q4 j z hz, fun j => by rw [rB]; exact q5 j, ?_⟩
    · show T.2.2.2 j z = _
      rw [d4 j z hz, q3]
    · show sm (fun k => (cuM T 15 (T.1 15 + f)).2.2.1 k 1) 3 = _
      rw [rB, r1, if_pos rfl]
      show sm (chf P) 3 = _
      rw [q6]
      grind
  · rw [if_neg c]
    have i15 : (1500 : Int32).toInt = 1500 := by decide
    obtain ⟨q1, q2, q3, q4, q5, q6⟩ := fi_all (x := 1500) (S := S) (by rw [i15]; omega) hb
    unfold f_X3_chargeBatteries_c16
    generalize f_X3_fillBatteries 1500 S = p at q1 q2 q3 q4 q5 q6 ⊢
    obtain ⟨f, P⟩ := p
    dsimp only at q1 q2 q3 q4 q5 q6 ⊢
    have r1 : ∀ j, (cuM P 15 (S.1 15 + f)).1 j = if j = 15 then S.1 15 + f else S.1 j := fun j => by rw [rdM, q1]
    refine ⟨fun j hj => by rw [r1, if_neg hj], q2, fun j z _ => ?_, q4, q5, ?_⟩
    · show P.2.2.2 j z = _
      rw [q3]
    · show sm (chf P) 3 = _
      rw [q6, r1, if_pos rfl]
      grind
