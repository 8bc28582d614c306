/-! ===== drawing, filling, serving, charging ===== -/
def BT (S : CS) : Prop := ∀ k, (0 ≤ (S.2.2.1 k 1).toInt ∧ (S.2.2.1 k 1).toInt ≤ (S.2.2.1 k 0).toInt ∧ (S.2.2.1 k 0).toInt ≤ 20000) ∧ (0 ≤ (S.2.2.1 k 2).toInt ∧ (S.2.2.1 k 2).toInt ≤ 500) ∧ (0 ≤ (S.2.2.1 k 3).toInt ∧ (S.2.2.1 k 3).toInt ≤ 500)
def GV (S : CS) : Prop := ∀ k, k < 3 → 0 ≤ (S.2.2.2 k 8).toInt ∧ (S.2.2.2 k 8).toInt ≤ (S.2.2.2 k 0).toInt ∧ (S.2.2.2 k 0).toInt ≤ 1000
abbrev chf (S : CS) : Nat → Int32 := fun k => S.2.2.1 k 1
theorem pl_bd {S : CS} (h : GV S) {k : Nat} (hk : k < 3) : 0 ≤ (pl S k).toInt ∧ (pl S k).toInt ≤ 1000 ∧ (pl S k).toInt ≤ (S.2.2.2 k 0).toInt - (S.2.2.2 k 8).toInt := by
  have := h k hk
  unfold pl
  split
  · rw [i_sub (by omega) (by omega)]; omega
  · rw [i_0]; omega
theorem dr_fr (x : Int32) (S : CS) : (f_X3_drawFromGenerators x S).2.1 = S.1 ∧ (f_X3_drawFromGenerators x S).2.2.1 = S.2.1 ∧ (f_X3_drawFromGenerators x S).2.2.2.1 = S.2.2.1 ∧ ∀ j z, z ≠ 8 → (f_X3_drawFromGenerators x S).2.2.2.2 j z = S.2.2.2 j z := by
  rw [drC_lp]
  refine itP (P := fun _ (s : CS × Int32) => s.1.1 = S.1 ∧ s.1.2.1 = S.2.1 ∧ s.1.2.2.1 = S.2.2.1 ∧ ∀ j z, z ≠ 8 → s.1.2.2.2 j z = S.2.2.2 j z) (fun k s hk h => ?_) ⟨rfl, rfl, rfl, fun _ _ _ => rfl⟩
  obtain ⟨h1, h2, h3, h4⟩ := h
  refine ⟨h1, h2, h3, fun j z hz => ?_⟩
  unfold drC
  dsimp only
  rw [rdG, if_neg (fun e => hz e.2)]
  exact h4 j z hz
/-- a piece of a drawing: v of x, from what there was (w) to a more -/
theorem mn_step {x v w a : Int} (hx : 0 ≤ x) (ha : 0 ≤ a) (h : (v = x ∧ x ≤ w) ∨ (v = w ∧ w ≤ x)) : ∀ r, (r = if a < x - v then a else x - v) → 0 ≤ r ∧ r ≤ a ∧ ((v + r = x ∧ x ≤ w + a) ∨ (v + r = w + a ∧ w + a ≤ x)) := by
  intro r hr
  split at hr <;> omega
theorem dr_all {x : Int32} {S : CS} (hx : 0 ≤ x.toInt ∧ x.toInt ≤ 100000) (hg : GV S) : GV (f_X3_drawFromGenerators x S).2 ∧ 0 ≤ (f_X3_drawFromGenerators x S).1.toInt ∧ (((f_X3_drawFromGenerators x S).1.toInt = x.toInt ∧ x.toInt ≤ (sm (pl S) 3).toInt) ∨ ((f_X3_drawFromGenerators x S).1.toInt = (sm (pl S) 3).toInt ∧ (sm (pl S) 3).toInt ≤ x.toInt)) := by
  rw [drC_lp]
  have main := itP (st := drC x) (B := 3) (S := ((S, 0) : CS × Int32)) (P := fun k (s : CS × Int32) => (∀ j z, z ≠ 8 → s.1.2.2.2 j z = S.2.2.2 j z) ∧ (∀ j, k ≤ j → s.1.2.2.2 j 8 = S.2.2.2 j 8) ∧ GV s.1 ∧ (0 ≤ s.2.toInt ∧ s.2.toInt ≤ x.toInt) ∧ ((s.2.toInt = x.toInt ∧ x.toInt ≤ (sm (pl S) k).toInt) ∨ (s.2.toInt = (sm (pl S) k).toInt ∧ (sm (pl S) k).toInt ≤ x.toInt))) (fun k s hk h => ?_) ⟨fun _ _ _ => rfl, fun _ _ => rfl, hg, by rw [i_0]; omega, Or.inr ⟨rfl, by show (0 : Int32).toInt ≤ _; rw [i_0]; exact hx.1⟩⟩
  · exact ⟨main.2.2.1, main.2.2.2.1.1, main.2.2.2.2⟩
  · obtain ⟨h1, h2, h3, h4, h5⟩ := h
    have ep : pl s.1 k = pl S k := by
      unfold pl
      rw [h1 k 4 (by decide), h1 k 5 (by decide), h1 k 0 (by decide), h2 k (Nat.le_refl k)]
    have hp := pl_bd h3 hk
    rw [ep] at hp
    have eI : (x - s.2).toInt = x.toInt - s.2.toInt := i_sub (by omega) (by omega)
    have eM := mn_toInt (pl S k) (x - s.2)
    rw [eI] at eM
    have hs := mn_step hx.1 hp.1 h5 _ eM
    have hb := sm_bd (g := pl S) (m := k) (B := 1000) (by omega) (by omega) (fun j hj => ⟨(pl_bd hg (k := j) (by omega)).1, (pl_bd hg (k := j) (by omega)).2.1⟩)
    have eS : (sm (pl S) (k + 1)).toInt = (sm (pl S) k).toInt + (pl S k).toInt := i_add (by omega)
    have eV : (s.2 + mn (pl S k) (x - s.2)).toInt = s.2.toInt + (mn (pl S k) (x - s.2)).toInt := i_add (by omega)
    have hk3 := h3 k hk
    have eG : (s.1.2.2.2 k 8 + mn (pl S k) (x - s.2)).toInt = (s.1.2.2.2 k 8).toInt + (mn (pl S k) (x - s.2)).toInt := i_add (by omega)
    unfold drC
    rw [ep]
    refine ⟨fun j z hz => ?_, fun j hj => ?_, fun j hj => ?_, ?_, ?_⟩
    · dsimp only
      rw [rdG, if_neg (fun e => hz e.2)]
      exact h1 j z hz
    · dsimp only
      rw [rdG, if_neg (by omega)]
      exact h2 j (by omega)
    · dsimp only
      rw [rdG, rdG, if_neg (show ¬ (j = k ∧ (0 : Nat) = 8) by omega)]
      by_cases e : j = k
      · subst e
        rw [if_pos ⟨rfl, rfl⟩, eG]
        omega
      · rw [if_neg (fun y => e y.1)]
        exact h3 j hj
    · dsimp only
      rw [eV]
      omega
    · dsimp only
      rw [eV, eS]
      omega
theorem db_all {x : Int32} {S : CS} (hx : 0 ≤ x.toInt ∧ x.toInt ≤ 100000) (hb : BT S) : (f_X3_drawFromBatteries x S).2.1 = S.1 ∧ (f_X3_drawFromBatteries x S).2.2.1 = S.2.1 ∧ (f_X3_drawFromBatteries x S).2.2.2.2 = S.2.2.2 ∧ (∀ j z, z ≠ 1 → (f_X3_drawFromBatteries x S).2.2.2.1 j z = S.2.2.1 j z) ∧ (∀ j, 0 ≤ ((f_X3_drawFromBatteries x S).2.2.2.1 j 1).toInt ∧ ((f_X3_drawFromBatteries x S).2.2.2.1 j 1).toInt ≤ (S.2.2.1 j 1).toInt) ∧ sm (chf (f_X3_drawFromBatteries x S).2) 3 = sm (chf S) 3 - (f_X3_drawFromBatteries x S).1 ∧ (((f_X3_drawFromBatteries x S).1.toInt = x.toInt ∧ x.toInt ≤ (bpw S).toInt) ∨ ((f_X3_drawFromBatteries x S).1.toInt = (bpw S).toInt ∧ (bpw S).toInt ≤ x.toInt)) ∧ (∀ j, 3 ≤ j → (f_X3_drawFromBatteries x S).2.2.2.1 j 1 = S.2.2.1 j 1) := by
  rw [dbC_lp]
  have main := itP (st := dbC x) (B := 3) (S := ((S, 0) : CS × Int32)) (P := fun k (s : CS × Int32) => (s.1.1 = S.1 ∧ s.1.2.1 = S.2.1 ∧ s.1.2.2.2 = S.2.2.2) ∧ (∀ j z, z ≠ 1 → s.1.2.2.1 j z = S.2.2.1 j z) ∧ ((∀ j, k ≤ j → s.1.2.2.1 j 1 = S.2.2.1 j 1) ∧ k ≤ 3 → True) ∧ (∀ j, k ≤ j → s.1.2.2.1 j 1 = S.2.2.1 j 1) ∧ (∀ j, 0 ≤ (s.1.2.2.1 j 1).toInt ∧ (s.1.2.2.1 j 1).toInt ≤ (S.2.2.1 j 1).toInt) ∧ sm (chf s.1) 3 = sm (chf S) 3 - s.2 ∧ (0 ≤ s.2.toInt ∧ s.2.toInt ≤ x.toInt) ∧ ((s.2.toInt = x.toInt ∧ x.toInt ≤ (sm (fun k => mn (S.2.2.1 k 2) (S.2.2.1 k 1)) k).toInt) ∨ (s.2.toInt = (sm (fun k => mn (S.2.2.1 k 2) (S.2.2.1 k 1)) k).toInt ∧ (sm (fun k => mn (S.2.2.1 k 2) (S.2.2.1 k 1)) k).toInt ≤ x.toInt))) (fun k s hk h => ?_) ⟨⟨rfl, rfl, rfl⟩, fun _ _ _ => rfl, fun _ => trivial, fun _ _ => rfl, fun j => ⟨(hb j).1.1, Int.le_refl _⟩, (r_sub0 _).symm, by rw [i_0]; omega, Or.inr ⟨rfl, by show (0 : Int32).toInt ≤ _; rw [i_0]; exact hx.1⟩⟩
  · obtain ⟨⟨a1, a2, a3⟩, a4, -, a5, a6, a7, a8, a9⟩ := main
    exact ⟨a1, a2, a3, a4, a6, a7, a9, a5⟩
  · obtain ⟨⟨h1, h2, h3⟩, h4, -, h5, h6, h7, h8, h9⟩ := h
    have e2 : s.1.2.2.1 k 2 = S.2.2.1 k 2 := h4 k 2 (by decide)
    have e1 : s.1.2.2.1 k 1 = S.2.2.1 k 1 := h5 k (Nat.le_refl k)
    have hbk := hb k
    have m0 := mn_0 (x := S.2.2.1 k 2) (y := S.2.2.1 k 1) hbk.2.1.1 hbk.1.1
    have m1 := mn_le1 (S.2.2.1 k 2) (S.2.2.1 k 1)
    have m2 := mn_le2 (S.2.2.1 k 2) (S.2.2.1 k 1)
    have eI : (x - s.2).toInt = x.toInt - s.2.toInt := i_sub (by omega) (by omega)
    have eM := mn_toInt (mn (S.2.2.1 k 2) (S.2.2.1 k 1)) (x - s.2)
    rw [eI] at eM
    have hs := mn_step hx.1 m0 h9 _ eM
    have hbb := sm_bd (g := fun k => mn (S.2.2.1 k 2) (S.2.2.1 k 1)) (m := k) (B := 500) (by omega) (by omega) (fun j hj => ⟨mn_0 (hb j).2.1.1 (hb j).1.1, Int.le_trans (mn_le1 _ _) (hb j).2.1.2⟩)
    have eS : (sm (fun k => mn (S.2.2.1 k 2) (S.2.2.1 k 1)) (k + 1)).toInt = (sm (fun k => mn (S.2.2.1 k 2) (S.2.2.1 k 1)) k).toInt + (mn (S.2.2.1 k 2) (S.2.2.1 k 1)).toInt := i_add (x := sm (fun k => mn (S.2.2.1 k 2) (S.2.2.1 k 1)) k) (y := mn (S.2.2.1 k 2) (S.2.2.1 k 1)) (by omega)
    unfold dbC
    rw [e1, e2]
    generalize mn (mn (S.2.2.1 k 2) (S.2.2.1 k 1)) (x - s.2) = r at eM hs ⊢
    have eV : (s.2 + r).toInt = s.2.toInt + r.toInt := i_add (by omega)
    have eB : (S.2.2.1 k 1 - r).toInt = (S.2.2.1 k 1).toInt - r.toInt := i_sub (by omega) (by omega)
    have hne : ∀ i, i ≠ k → (cuB s.1 k 1 (S.2.2.1 k 1 - r)).2.2.1 i 1 = s.1.2.2.1 i 1 := fun i hi => by rw [rdB, if_neg (fun y => hi y.1)]
    have hk1 : (cuB s.1 k 1 (S.2.2.1 k 1 - r)).2.2.1 k 1 = S.2.2.1 k 1 - r := by rw [rdB, if_pos ⟨rfl, rfl⟩]
    refine ⟨⟨h1, h2, h3⟩, fun j z hz => ?_, fun _ => trivial, fun j hj => ?_, fun j => ?_, ?_, ?_, ?_⟩
    · dsimp only
      rw [rdB, if_neg (fun e => hz e.2)]
      exact h4 j z hz
    · dsimp only
      rw [hne j (by omega)]
      exact h5 j (by omega)
    · dsimp only
      by_cases e : j = k
      · subst e
        rw [hk1, eB]
        omega
      · rw [hne j e]
        exact h6 j
    · have e9 := sm_upd (g := chf s.1) (g' := chf (cuB s.1 k 1 (S.2.2.1 k 1 - r))) (j := k) (m := 3) hk (fun i _ hi => hne i hi)
      dsimp only
      rw [e9, h7]
      show _ + ((cuB s.1 k 1 (S.2.2.1 k 1 - r)).2.2.1 k 1 - s.1.2.2.1 k 1) = _
      rw [hk1, e1]
      grind
    · dsimp only
      rw [eV]
      omega
    · dsimp only
      rw [eV, eS]
      omega
theorem fi_all {x : Int32} {S : CS} (hx : 0 ≤ x.toInt ∧ x.toInt ≤ 100000) (hb : BT S) : (f_X3_fillBatteries x S).2.1 = S.1 ∧ (f_X3_fillBatteries x S).2.2.1 = S.2.1 ∧ (f_X3_fillBatteries x S).2.2.2.2 = S.2.2.2 ∧ (∀ j z, z ≠ 1 → (f_X3_fillBatteries x S).2.2.2.1 j z = S.2.2.1 j z) ∧ (∀ j, (S.2.2.1 j 1).toInt ≤ ((f_X3_fillBatteries x S).2.2.2.1 j 1).toInt ∧ ((f_X3_fillBatteries x S).2.2.2.1 j 1).toInt ≤ (S.2.2.1 j 0).toInt) ∧ sm (chf (f_X3_fillBatteries x S).2) 3 = sm (chf S) 3 + (f_X3_fillBatteries x S).1 := by
  rw [fiC_lp]
  have main := itP (st := fiC x) (B := 3) (S := ((S, 0) : CS × Int32)) (P := fun k (s : CS × Int32) => (s.1.1 = S.1 ∧ s.1.2.1 = S.2.1 ∧ s.1.2.2.2 = S.2.2.2) ∧ (∀ j z, z ≠ 1 → s.1.2.2.1 j z = S.2.2.1 j z) ∧ (∀ j, k ≤ j → s.1.2.2.1 j 1 = S.2.2.1 j 1) ∧ (∀ j, (S.2.2.1 j 1).toInt ≤ (s.1.2.2.1 j 1).toInt ∧ (s.1.2.2.1 j 1).toInt ≤ (S.2.2.1 j 0).toInt) ∧ sm (chf s.1) 3 = sm (chf S) 3 + s.2 ∧ (0 ≤ s.2.toInt ∧ s.2.toInt ≤ x.toInt)) (fun k s hk h => ?_) ⟨⟨rfl, rfl, rfl⟩, fun _ _ _ => rfl, fun _ _ => rfl, fun j => ⟨Int.le_refl _, (hb j).1.2.1⟩, (i_add0 _).symm, by rw [i_0]; omega⟩
  · obtain ⟨⟨a1, a2, a3⟩, a4, a5, a6, a7, a8⟩ := main
    exact ⟨a1, a2, a3, a4, a6, a7⟩
  · obtain ⟨⟨h1, h2, h3⟩, h4, h5, h6, h7, h8⟩ := h
    have e0 : s.1.2.2.1 k 0 = S.2.2.1 k 0 := h4 k 0 (by decide)
    have e3 : s.1.2.2.1 k 3 = S.2.2.1 k 3 := h4 k 3 (by decide)
    have e1 : s.1.2.2.1 k 1 = S.2.2.1 k 1 := h5 k (Nat.le_refl k)
    have hbk := hb k
    have eC : (S.2.2.1 k 0 - S.2.2.1 k 1).toInt = (S.2.2.1 k 0).toInt - (S.2.2.1 k 1).toInt := i_sub (by omega) (by omega)
    have m0 := mn_0 (x := S.2.2.1 k 3) (y := S.2.2.1 k 0 - S.2.2.1 k 1) hbk.2.2.1 (by omega)
    have m1 := mn_le1 (S.2.2.1 k 3) (S.2.2.1 k 0 - S.2.2.1 k 1)
    have m2 := mn_le2 (S.2.2.1 k 3) (S.2.2.1 k 0 - S.2.2.1 k 1)
    have eI : (x - s.2).toInt = x.toInt - s.2.toInt := i_sub (by omega) (by omega)
    have n0 := mn_0 (x := mn (S.2.2.1 k 3) (S.2.2.1 k 0 - S.2.2.1 k 1)) (y := x - s.2) m0 (by omega)
    have n1 := mn_le1 (mn (S.2.2.1 k 3) (S.2.2.1 k 0 - S.2.2.1 k 1)) (x - s.2)
    have n2 := mn_le2 (mn (S.2.2.1 k 3) (S.2.2.1 k 0 - S.2.2.1 k 1)) (x - s.2)
    unfold fiC
    rw [e0, e1, e3]
    generalize mn (mn (S.2.2.1 k 3) (S.2.2.1 k 0 - S.2.2.1 k 1)) (x - s.2) = r at n0 n1 n2 ⊢
    have eV : (s.2 + r).toInt = s.2.toInt + r.toInt := i_add (by omega)
    have eB : (S.2.2.1 k 1 + r).toInt = (S.2.2.1 k 1).toInt + r.toInt := i_add (by omega)
    have hne : ∀ i, i ≠ k → (cuB s.1 k 1 (S.2.2.1 k 1 + r)).2.2.1 i 1 = s.1.2.2.1 i 1 := fun i hi => by rw [rdB, if_neg (fun y => hi y.1)]
    have hk1 : (cuB s.1 k 1 (S.2.2.1 k 1 + r)).2.2.1 k 1 = S.2.2.1 k 1 + r := by rw [rdB, if_pos ⟨rfl, rfl⟩]
    refine ⟨⟨h1, h2, h3⟩, fun j z hz => ?_, fun j hj => ?_, fun j => ?_, ?_, ?_⟩
    · dsimp only
      rw [rdB, if_neg (fun e => hz e.2)]
      exact h4 j z hz
    · dsimp only
      rw [hne j (by omega)]
      exact h5 j (by omega)
    · dsimp only
      by_cases e : j = k
      · subst e
        rw [hk1, eB]
        omega
      · rw [hne j e]
        exact h6 j
    · have e9 := sm_upd (g := chf s.1) (g' := chf (cuB s.1 k 1 (S.2.2.1 k 1 + r))) (j := k) (m := 3) hk (fun i _ hi => hne i hi)
      dsimp only
      rw [e9, h7]
      show _ + ((cuB s.1 k 1 (S.2.2.1 k 1 + r)).2.2.1 k 1 - s.1.2.2.1 k 1) = _
      rw [hk1, e1]
      grind
    · dsimp only
      rw [eV]
      omega
/-- what the loads have got and missed behind a minute's serving -/
def SV (k : Nat) (S T : CS) : Prop := (∀ j z, z ≠ 4 → z ≠ 5 → T.2.1 j z = S.2.1 j z) ∧ (∀ j, j < k → T.2.1 j 4 = S.2.1 j 4 + srd (stf S) (pwf S) j ∧ T.2.1 j 5 = S.2.1 j 5 + (if S.2.1 j 3 = 2 then 1 else 0)) ∧ ∀ j, k ≤ j → T.2.1 j 4 = S.2.1 j 4 ∧ T.2.1 j 5 = S.2.1 j 5
theorem sv_loop (S : CS) : (itr svC 10 (S, 0)).1.1 = S.1 ∧ (itr svC 10 (S, 0)).1.2.2 = S.2.2 ∧ SV 10 S (itr svC 10 (S, 0)).1 ∧ (itr svC 10 (S, 0)).2 = dem S := by
  refine itP (st := svC) (B := 10) (S := ((S, 0) : CS × Int32)) (P := fun k (s : CS × Int32) => s.1.1 = S.1 ∧ s.1.2.2 = S.2.2 ∧ SV k S s.1 ∧ s.2 = sm (srd (stf S) (pwf S)) k) (fun k s hk h => ?_) ⟨rfl, rfl, ⟨fun _ _ _ _ => rfl, fun j hj => absurd hj (Nat.not_lt_zero j), fun _ _ => ⟨rfl, rfl⟩⟩, rfl⟩
  obtain ⟨h1, h2, ⟨h3, h4, h5⟩, h6⟩ := h
  have e3 : s.1.2.1 k 3 = S.2.1 k 3 := h3 k 3 (by decide) (by decide)
  have e2 : s.1.2.1 k 2 = S.2.1 k 2 := h3 k 2 (by decide) (by decide)
  obtain ⟨e4, e5⟩ := h5 k (Nat.le_refl k)
  have sm1 : sm (srd (stf S) (pwf S)) (k + 1) = sm (srd (stf S) (pwf S)) k + (if S.2.1 k 3 = 1 then S.2.1 k 2 else 0) := rfl
  have sr1 : srd (stf S) (pwf S) k = (if S.2.1 k 3 = 1 then S.2.1 k 2 else 0) := rfl
  unfold svC
  rw [e3, e2, e4, e5]
  by_cases c1 : S.2.1 k 3 = 1
  · rw [if_pos c1]
    have g2 : (cuL s.1 k 4 (S.2.1 k 4 + S.2.1 k 2)).2.1 k 2 = S.2.1 k 2 := by rw [rdL, if_neg (fun y => absurd y.2 (by decide))]; exact e2
    refine ⟨h1, h2, ⟨fun j z a b => ?_, fun j hj => ?_, fun j hj => ?_⟩, ?_⟩
    · dsimp only
      rw [rdL, if_neg (fun y => a y.2)]
      exact h3 j z a b
    · dsimp only
      rw [rdL, rdL, if_neg (show ¬ (j = k ∧ (5 : Nat) = 4) by omega)]
      by_cases e : j = k
      · subst e
        rw [if_pos ⟨rfl, rfl⟩, sr1, if_pos c1, e5, c1, if_neg one_two, i_add0]
        exact ⟨rfl, rfl⟩
      · rw [if_neg (fun y => e y.1)]
        exact h4 j (by omega)
    · dsimp only
      rw [rdL, rdL, if_neg (show ¬ (j = k ∧ (5 : Nat) = 4) by omega), if_neg (by omega)]
      exact h5 j (by omega)
    · dsimp only
      rw [g2, h6, sm1, if_pos c1]
  · rw [if_neg c1]
    by_cases c2 : S.2.1 k 3 = 2
    · rw [if_pos c2]
      refine ⟨h1, h2, ⟨fun j z a b => ?_, fun j hj => ?_, fun j hj => ?_⟩, ?_⟩
      · dsimp only
        rw [rdL, if_neg (fun y => b y.2)]
        exact h3 j z a b
      · dsimp only
        rw [rdL, rdL, if_neg (show ¬ (j = k ∧ (4 : Nat) = 5) by omega)]
        by_cases e : j = k
        · subst e
          rw [if_pos ⟨rfl, rfl⟩, sr1, if_neg c1, e4, if_pos c2, i_add0]
          exact ⟨rfl, rfl⟩
        · rw [if_neg (fun y => e y.1)]
          exact h4 j (by omega)
      · dsimp only
        rw [rdL, rdL, if_neg (show ¬ (j = k ∧ (4 : Nat) = 5) by omega), if_neg (by omega)]
        exact h5 j (by omega)
      · dsimp only
        rw [h6, sm1, if_neg c1, i_add0]
    · rw [if_neg c2]
      refine ⟨h1, h2, ⟨h3, fun j hj => ?_, fun j hj => h5 j (by omega)⟩, ?_⟩
      · by_cases e : j = k
        · subst e
          rw [e4, e5, sr1, if_neg c1, if_neg c2, i_add0, i_add0]
          exact ⟨rfl, rfl⟩
        · exact h4 j (by omega)
      · rw [h6, sm1, if_neg c1, i_add0]
