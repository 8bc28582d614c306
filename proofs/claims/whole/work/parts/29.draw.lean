/-! ===== drawing from generators and batteries, filling batteries ===== -/
theorem r_sub_sub (x v y : Int32) : x - (v + y) = x - v - y := by grind
theorem r_split (x y a b : Int32) : x + y - (a + b) = (x - a) + (y - b) := by grind
theorem r_4 (g a b : Int32) : g + (a + b) = g + a + b := by grind
theorem r_sub_r (g a b : Int32) : g - (b + a) = g - b - a := by grind
theorem r_cancel (x l : Int32) : x - (x - l) = l := by grind
theorem r_sub0 (x : Int32) : x - 0 = x := by grind
theorem r_0add (x : Int32) : 0 + x = x := by grind
theorem r_addsub (x v : Int32) : x + v - v = x := by grind
/-- one generator, drawn from twice -/
theorem stg {g a b : Int32} (hg : 0 ≤ g.toInt ∧ g.toInt ≤ 2000) (ha : 0 ≤ a.toInt ∧ a.toInt ≤ 100000) (hb : 0 ≤ b.toInt ∧ b.toInt ≤ 100000) :
    mn g (a + b) = mn g a + mn (g - mn g a) b ∧ (0 ≤ (mn g a).toInt ∧ (mn g a).toInt ≤ a.toInt ∧ (mn g a).toInt ≤ g.toInt) ∧ (g - mn g a).toInt = g.toInt - (mn g a).toInt ∧ (0 ≤ (mn (g - mn g a) b).toInt ∧ (mn (g - mn g a) b).toInt ≤ b.toInt) := by
  have e1 := mn_toInt g a
  have e2 : (g - mn g a).toInt = g.toInt - (mn g a).toInt := i_sub (by omega) (by split at e1 <;> omega)
  have e3 := mn_toInt (g - mn g a) b
  have e4 : (a + b).toInt = a.toInt + b.toInt := i_add (by omega)
  have e5 := mn_toInt g (a + b)
  have e6 : (mn g a + mn (g - mn g a) b).toInt = (mn g a).toInt + (mn (g - mn g a) b).toInt := i_add (by split at e1 <;> split at e3 <;> omega)
  refine ⟨?_, ?_, e2, ?_⟩
  · rw [i_eq, e5, e6]
    split at e1 <;> split at e3 <;> split <;> omega
  · split at e1 <;> omega
  · split at e1 <;> split at e3 <;> omega
section DR
variable {n : Nat × Nat × Nat} {d : Nat → Int32} {S : CS} {M : MS}
def drC (x : Int32) (k : Nat) (s : CS × Int32) : CS × Int32 := (cuG s.1 k 8 (s.1.2.2.2 k 8 + mn (pl s.1 k) (x - s.2)), s.2 + mn (pl s.1 k) (x - s.2))
def tkM (k : Nat) (s : MS × Int32) : MS × Int32 := (muA s.1 20 k (s.1.2 20 k + (if s.1.2 16 k = 2 ∧ s.1.2 17 k = 0 then mn (s.1.2 12 k - s.1.2 20 k) s.2 else 0)), s.2 - (if s.1.2 16 k = 2 ∧ s.1.2 17 k = 0 then mn (s.1.2 12 k - s.1.2 20 k) s.2 else 0))
theorem drC_lp (x : Int32) (S : CS) : f_X3_drawFromGenerators x S = ((itr (drC x) 3 (S, 0)).2, (itr (drC x) 3 (S, 0)).1) := by
  have hH : ∀ (q k : Nat) (s : CS × Int32), f_X3_drawFromGenerators_h14 x (q + 1) k s.1 s.2 = if 3 ≤ k then (s.2, s.1) else f_X3_drawFromGenerators_h14 x q (k + 1) (drC x k s).1 (drC x k s).2 := by
    intro q k s
    rw [f_X3_drawFromGenerators_h14, pLeft_eq]
    unfold f_X3_drawFromGenerators_c29
    simp only [mnc]
    rfl
  have e := lpI (H := fun q k (s : CS × Int32) => f_X3_drawFromGenerators_h14 x q k s.1 s.2) (B := 3) (fin := fun s => (s.2, s.1)) (st := drC x) hH (S, 0)
  unfold f_X3_drawFromGenerators
  exact e
theorem lesser_mn (n : Nat × Nat × Nat) (x y : Int32) (M : MS) : f_X4_lesser n x y M = (mn x y, M) := lesser_eq n x y M
theorem tkM_lp (n : Nat × Nat × Nat) (x : Int32) (M : MS) : f_X4_takes n x M = (x - (itr tkM n.2.2 (M, x)).2, (itr tkM n.2.2 (M, x)).1) := by
  have hH : ∀ (q k : Nat) (s : MS × Int32), f_X4_takes_h4 n x (q + 1) k s.1 s.2 = if n.2.2 ≤ k then (x - s.2, s.1) else f_X4_takes_h4 n x q (k + 1) (tkM k s).1 (tkM k s).2 := by
    intro q k s
    rw [f_X4_takes_h4, gives_eq]
    unfold f_X4_takes_c14 f_X4_takes_c34 f_X4_takes_b41 tkM
    by_cases c : n.2.2 ≤ k
    · rw [if_pos c, if_pos c]
    · rw [if_neg c, if_neg c]
      by_cases c2 : s.1.2 16 k = 2 ∧ s.1.2 17 k = 0
      · rw [if_pos c2, if_pos c2, if_neg (show ¬ ((1 : Int32), s.1).1 = 0 from by show ¬ (1 : Int32) = 0; decide), lesser_mn]
      · rw [if_neg c2, if_neg c2, if_pos (show ((0 : Int32), s.1).1 = 0 from rfl)]
  show f_X4_takes_h4 n x (n.2.2 + 1) 0 M x = _
  exact lpI (H := fun q k s => f_X4_takes_h4 n x q k s.1 s.2) (B := n.2.2) (fin := fun s => (x - s.2, s.1)) (st := tkM) hH (M, x)
theorem draw_R {x : Int32} (h : Iv n d S M) (hx : 0 ≤ x.toInt ∧ x.toInt ≤ 100000) : (f_X3_drawFromGenerators x S).1 = (f_X4_takes n x M).1 ∧ Iv n d (f_X3_drawFromGenerators x S).2 (f_X4_takes n x M).2 ∧ 0 ≤ (f_X3_drawFromGenerators x S).1.toInt ∧ (f_X3_drawFromGenerators x S).1.toInt ≤ x.toInt := by
  rw [drC_lp, tkM_lp]
  have main : (fun (k : Nat) (s : CS × Int32) (t : MS × Int32) => Iv n d s.1 t.1 ∧ t.2 = x - s.2 ∧ 0 ≤ s.2.toInt ∧ s.2.toInt ≤ x.toInt) 3 (itr (drC x) 3 (S, 0)) (itr tkM n.2.2 (M, x)) := by
    refine itS (P := fun (k : Nat) (s : CS × Int32) (t : MS × Int32) => Iv n d s.1 t.1 ∧ t.2 = x - s.2 ∧ 0 ≤ s.2.toInt ∧ s.2.toInt ≤ x.toInt) h.ok.2.2 (fun k s t hk hh => ?_) (fun k s t hk _ hh => ?_) ⟨h, (r_sub0 x).symm, by rw [i_0]; omega, by rw [i_0]; exact hx.1⟩
    · obtain ⟨h, e, h0, h1⟩ := hh
      have eI : (x - s.2).toInt = x.toInt - s.2.toInt := i_sub (by omega) (by omega)
      have hp := pl_bd h k
      have m0 := mn_0 (x := pl s.1 k) (y := x - s.2) hp.1 (by omega)
      have m1 := mn_le1 (pl s.1 k) (x - s.2)
      have m2 := mn_le2 (pl s.1 k) (x - s.2)
      have hb := (h.bg k).1
      have ew : (if t.1.2 16 k = 2 ∧ t.1.2 17 k = 0 then mn (t.1.2 12 k - t.1.2 20 k) t.2 else 0) = mn (pl s.1 k) (x - s.2) := by
        rw [pl_R h, e]
        split
        · rfl
        · exact (mn_0l (by omega)).symm
      have eA : (s.2 + mn (pl s.1 k) (x - s.2)).toInt = s.2.toInt + (mn (pl s.1 k) (x - s.2)).toInt := i_add (by omega)
      have eP : (pl s.1 k).toInt ≤ (t.1.2 12 k).toInt - (t.1.2 20 k).toInt := by
        rw [pl_R h]
        split
        · rw [i_sub (by omega) (by omega)]; omega
        · rw [i_0]; omega
      have eB : (t.1.2 20 k + mn (pl s.1 k) (x - s.2)).toInt = (t.1.2 20 k).toInt + (mn (pl s.1 k) (x - s.2)).toInt := i_add (by omega)
      unfold drC tkM
      rw [ew, eG 8 20 (by omega) rfl h]
      refine ⟨I_gv hk h (by omega) (by omega), ?_, by show 0 ≤ (s.2 + _).toInt; omega, by show (s.2 + _).toInt ≤ _; omega⟩
      show t.2 - _ = x - (s.2 + _)
      rw [r_sub_sub, e]
    · obtain ⟨h, e, h0, h1⟩ := hh
      have eI : (x - s.2).toInt = x.toInt - s.2.toInt := i_sub (by omega) (by omega)
      have e9 : drC x k s = s := by
        unfold drC
        rw [pl_0 h hk, mn_0l (by omega), i_add0, i_add0, cuG_same rfl]
      show Iv n d (drC x k s).1 t.1 ∧ _
      rw [e9]
      exact ⟨h, e, h0, h1⟩
  obtain ⟨h1, e, h3, h4⟩ := main
  refine ⟨?_, h1, h3, h4⟩
  dsimp only
  rw [e, r_cancel]
-- the class's drawing, written out
def q0 (x : Int32) (S : CS) : Int32 := mn (pl S 0) x
def q1 (x : Int32) (S : CS) : Int32 := mn (pl S 1) (x - q0 x S)
def q2 (x : Int32) (S : CS) : Int32 := mn (pl S 2) (x - (q0 x S + q1 x S))
def gvn (S : CS) (w0 w1 w2 : Int32) : CS := cuG (cuG (cuG S 0 8 w0) 1 8 w1) 2 8 w2
theorem pl_u {k j : Nat} {v : Int32} (hj : j ≠ k) : pl (cuG S k 8 v) j = pl S j := by
  have e : ∀ z, (cuG S k 8 v).2.2.2 j z = S.2.2.2 j z := fun z => by rw [rdG, if_neg (fun y => hj y.1)]
  unfold pl
  rw [e, e, e, e]
theorem draw_cl (x : Int32) (S : CS) : f_X3_drawFromGenerators x S = (q0 x S + q1 x S + q2 x S, gvn S (S.2.2.2 0 8 + q0 x S) (S.2.2.2 1 8 + q1 x S) (S.2.2.2 2 8 + q2 x S)) := by
  have a1 : drC x 0 (S, 0) = (cuG S 0 8 (S.2.2.2 0 8 + q0 x S), q0 x S) := by
    unfold drC q0
    rw [r_sub0, r_0add]
  have a2 : drC x 1 (cuG S 0 8 (S.2.2.2 0 8 + q0 x S), q0 x S) = (cuG (cuG S 0 8 (S.2.2.2 0 8 + q0 x S)) 1 8 (S.2.2.2 1 8 + q1 x S), q0 x S + q1 x S) := by
    unfold drC q1
    dsimp only
    rw [pl_u (by decide), rdG, if_neg (by decide)]
  have a3 : drC x 2 (cuG (cuG S 0 8 (S.2.2.2 0 8 + q0 x S)) 1 8 (S.2.2.2 1 8 + q1 x S), q0 x S + q1 x S) = (gvn S (S.2.2.2 0 8 + q0 x S) (S.2.2.2 1 8 + q1 x S) (S.2.2.2 2 8 + q2 x S), q0 x S + q1 x S + q2 x S) := by
    unfold drC q2 gvn
    dsimp only
    rw [pl_u (by decide), pl_u (by decide), rdG, if_neg (by decide), rdG, if_neg (by decide)]
  have e : itr (drC x) 3 (S, 0) = drC x 2 (drC x 1 (drC x 0 (S, 0))) := rfl
  rw [drC_lp, e, a1, a2, a3]
theorem gvn_gvn {w0 w1 w2 v0 v1 v2 : Int32} : gvn (gvn S w0 w1 w2) v0 v1 v2 = gvn S v0 v1 v2 := by
  have : (gvn (gvn S w0 w1 w2) v0 v1 v2).2.2.2 = (gvn S v0 v1 v2).2.2.2 := by
    funext i j
    unfold gvn
    simp only [rdG]
    by_cases c2 : i = 2 ∧ j = 8
    · simp only [if_pos c2]
    · by_cases c1 : i = 1 ∧ j = 8
      · simp only [if_neg c2, if_pos c1]
      · by_cases c0 : i = 0 ∧ j = 8
        · simp only [if_neg c2, if_neg c1, if_pos c0]
        · simp only [if_neg c2, if_neg c1, if_neg c0]
  show ((gvn S v0 v1 v2).1, (gvn S v0 v1 v2).2.1, (gvn S v0 v1 v2).2.2.1, (gvn (gvn S w0 w1 w2) v0 v1 v2).2.2.2) = ((gvn S v0 v1 v2).1, (gvn S v0 v1 v2).2.1, (gvn S v0 v1 v2).2.2.1, (gvn S v0 v1 v2).2.2.2)
  rw [this]
theorem gvn_same : gvn S (S.2.2.2 0 8) (S.2.2.2 1 8) (S.2.2.2 2 8) = S := by
  unfold gvn
  rw [cuG_same (i := 0) rfl, cuG_same (i := 1) rfl, cuG_same (i := 2) rfl]
/-- how much each can still give -/
def plOk (S : CS) : Prop := ∀ k, k < 3 → 0 ≤ (pl S k).toInt ∧ (pl S k).toInt ≤ 1000
theorem Iv.plOk (h : Iv n d S M) : plOk S := fun k _ => pl_bd h k
theorem pl_gvn {k : Nat} {p0 p1 p2 : Int32} (hk : k < 3) (h : ¬ (S.2.2.2 k 4 = 2 ∧ S.2.2.2 k 5 = 0) → (if k = 0 then p0 else if k = 1 then p1 else p2) = 0) : pl (gvn S (S.2.2.2 0 8 + p0) (S.2.2.2 1 8 + p1) (S.2.2.2 2 8 + p2)) k = pl S k - (if k = 0 then p0 else if k = 1 then p1 else p2) := by
  unfold pl gvn
  rcases (show k = 0 ∨ k = 1 ∨ k = 2 by omega) with e | e | e
  · subst e
    simp only [rdG]
    simp only [show ((0 : Nat) = 2) = False by decide, show ((0 : Nat) = 1) = False by decide, show ((4 : Nat) = 8) = False by decide, show ((5 : Nat) = 8) = False by decide, and_false, false_and, if_false, and_self, if_true, eq_self]
    by_cases c : S.2.2.2 0 4 = 2 ∧ S.2.2.2 0 5 = 0
    · simp only [if_pos c, r_sub_sub, show ((0 : Nat) = 8) = False by decide, and_false, if_false]
    · have h9 := h c
      simp only [if_true, eq_self] at h9
      simp only [if_neg c, h9, r_sub0]
  · subst e
    simp only [rdG]
    simp only [show ((1 : Nat) = 2) = False by decide, show ((1 : Nat) = 0) = False by decide, show ((4 : Nat) = 8) = False by decide, show ((5 : Nat) = 8) = False by decide, and_false, false_and, if_false, and_self, if_true, eq_self]
    by_cases c : S.2.2.2 1 4 = 2 ∧ S.2.2.2 1 5 = 0
    · simp only [if_pos c, r_sub_sub, show ((0 : Nat) = 8) = False by decide, and_false, if_false]
    · have h9 := h c
      simp only [if_true, if_false, eq_self, show ((1 : Nat) = 0) = False by decide] at h9
      simp only [if_neg c, h9, r_sub0]
  · subst e
    simp only [rdG]
    simp only [show ((2 : Nat) = 1) = False by decide, show ((2 : Nat) = 0) = False by decide, show ((4 : Nat) = 8) = False by decide, show ((5 : Nat) = 8) = False by decide, and_false, false_and, if_false, and_self, if_true, eq_self]
    by_cases c : S.2.2.2 2 4 = 2 ∧ S.2.2.2 2 5 = 0
    · simp only [if_pos c, r_sub_sub, show ((0 : Nat) = 8) = False by decide, and_false, if_false]
    · have h9 := h c
      simp only [if_false, show ((2 : Nat) = 1) = False by decide, show ((2 : Nat) = 0) = False by decide] at h9
      simp only [if_neg c, h9, r_sub0]
theorem pl_n {k : Nat} (c : ¬ (S.2.2.2 k 4 = 2 ∧ S.2.2.2 k 5 = 0)) : pl S k = 0 := if_neg c
/-- a drawing's parts: what is drawn from each, in order -/
theorem q_bd {x : Int32} (hp : plOk S) (hx : 0 ≤ x.toInt ∧ x.toInt ≤ 100000) : (q0 x S).toInt = (if (pl S 0).toInt < x.toInt then (pl S 0).toInt else x.toInt) ∧ (x - q0 x S).toInt = x.toInt - (q0 x S).toInt ∧ (q1 x S).toInt = (if (pl S 1).toInt < x.toInt - (q0 x S).toInt then (pl S 1).toInt else x.toInt - (q0 x S).toInt) ∧ (x - (q0 x S + q1 x S)).toInt = x.toInt - (q0 x S).toInt - (q1 x S).toInt ∧ (q2 x S).toInt = (if (pl S 2).toInt < x.toInt - (q0 x S).toInt - (q1 x S).toInt then (pl S 2).toInt else x.toInt - (q0 x S).toInt - (q1 x S).toInt) ∧ (q0 x S + q1 x S + q2 x S).toInt = (q0 x S).toInt + (q1 x S).toInt + (q2 x S).toInt := by
  have p0 := hp 0 (by decide)
  have p1 := hp 1 (by decide)
  have p2 := hp 2 (by decide)
  have a0 : (q0 x S).toInt = (if (pl S 0).toInt < x.toInt then (pl S 0).toInt else x.toInt) := mn_toInt _ _
  have b0 : 0 ≤ (q0 x S).toInt ∧ (q0 x S).toInt ≤ x.toInt := by rw [a0]; split <;> omega
  have a1 : (x - q0 x S).toInt = x.toInt - (q0 x S).toInt := i_sub (by omega) (by omega)
  have a2 : (q1 x S).toInt = (if (pl S 1).toInt < x.toInt - (q0 x S).toInt then (pl S 1).toInt else x.toInt - (q0 x S).toInt) := by rw [← a1]; exact mn_toInt _ _
  have b1 : 0 ≤ (q1 x S).toInt ∧ (q1 x S).toInt ≤ x.toInt - (q0 x S).toInt := by rw [a2]; split <;> omega
  have a3 : (x - (q0 x S + q1 x S)).toInt = x.toInt - (q0 x S).toInt - (q1 x S).toInt := by rw [r_sub_sub, i_sub (by omega) (by omega), a1]
  have a4 : (q2 x S).toInt = (if (pl S 2).toInt < x.toInt - (q0 x S).toInt - (q1 x S).toInt then (pl S 2).toInt else x.toInt - (q0 x S).toInt - (q1 x S).toInt) := by rw [← a3]; exact mn_toInt _ _
  have b2 : 0 ≤ (q2 x S).toInt ∧ (q2 x S).toInt ≤ x.toInt - (q0 x S).toInt - (q1 x S).toInt := by rw [a4]; split <;> omega
  have c1 : (q0 x S + q1 x S).toInt = (q0 x S).toInt + (q1 x S).toInt := i_add (by omega)
  exact ⟨a0, a1, a2, a3, a4, by rw [i_add (by omega), c1]⟩
theorem q_n {x : Int32} (hx : 0 ≤ x.toInt ∧ x.toInt ≤ 100000) (hp : plOk S) {k : Nat} (hk : k < 3) (c : ¬ (S.2.2.2 k 4 = 2 ∧ S.2.2.2 k 5 = 0)) : (if k = 0 then q0 x S else if k = 1 then q1 x S else q2 x S) = 0 := by
  have e := pl_n c
  obtain ⟨a0, a1, a2, a3, a4, -⟩ := q_bd hp hx
  have i0 := i_0
  rcases (show k = 0 ∨ k = 1 ∨ k = 2 by omega) with q | q | q
  · subst q
    rw [if_pos rfl]
    unfold q0
    rw [e]
    exact mn_0l hx.1
  · subst q
    rw [if_neg (by decide), if_pos rfl]
    unfold q1
    rw [e]
    refine mn_0l ?_
    rw [a1]
    split at a0 <;> omega
  · subst q
    rw [if_neg (by decide), if_neg (by decide)]
    unfold q2
    rw [e]
    refine mn_0l ?_
    rw [a3]
    split at a0 <;> split at a2 <;> omega
theorem pl_d {x : Int32} (hp : plOk S) (hx : 0 ≤ x.toInt ∧ x.toInt ≤ 100000) : pl (f_X3_drawFromGenerators x S).2 0 = pl S 0 - q0 x S ∧ pl (f_X3_drawFromGenerators x S).2 1 = pl S 1 - q1 x S ∧ pl (f_X3_drawFromGenerators x S).2 2 = pl S 2 - q2 x S := by
  rw [draw_cl]
  exact ⟨pl_gvn (k := 0) (by decide) (q_n hx hp (by decide)), pl_gvn (k := 1) (by decide) (q_n hx hp (by decide)), pl_gvn (k := 2) (by decide) (q_n hx hp (by decide))⟩
/-- drawn twice is drawn once -/
theorem draw_add {x y : Int32} (hp : plOk S) (hx : 0 ≤ x.toInt ∧ x.toInt ≤ 50000) (hy : 0 ≤ y.toInt ∧ y.toInt ≤ 50000) : (f_X3_drawFromGenerators (x + y) S).2 = (f_X3_drawFromGenerators y (f_X3_drawFromGenerators x S).2).2 := by
  obtain ⟨d0, d1, d2⟩ := pl_d hp (x := x) (by omega)
  obtain ⟨a0, a1, a2, a3, a4, -⟩ := q_bd hp (x := x) (by omega)
  have p0 := hp 0 (by decide)
  have p1 := hp 1 (by decide)
  have p2 := hp 2 (by decide)
  obtain ⟨s1, s2, s3, s4⟩ := stg (g := pl S 0) (a := x) (b := y) (by omega) (by omega) (by omega)
  have k0 : q0 (x + y) S = q0 x S + q0 y (f_X3_drawFromGenerators x S).2 := by
    unfold q0
    unfold q0 at d0
    rw [d0]
    exact s1
  have l0 : (q0 y (f_X3_drawFromGenerators x S).2) = mn (pl S 0 - mn (pl S 0) x) y := by
    unfold q0
    unfold q0 at d0
    rw [d0]
  have b0 : 0 ≤ (q0 x S).toInt ∧ (q0 x S).toInt ≤ x.toInt := by rw [a0]; split <;> omega
  have b0' : 0 ≤ (q0 y (f_X3_drawFromGenerators x S).2).toInt ∧ (q0 y (f_X3_drawFromGenerators x S).2).toInt ≤ y.toInt := by rw [l0]; exact s4
  have y1 : (y - q0 y (f_X3_drawFromGenerators x S).2).toInt = y.toInt - (q0 y (f_X3_drawFromGenerators x S).2).toInt := i_sub (by omega) (by omega)
  obtain ⟨t1, t2, t3, t4⟩ := stg (g := pl S 1) (a := x - q0 x S) (b := y - q0 y (f_X3_drawFromGenerators x S).2) (by omega) (by omega) (by omega)
  have l1 : (q1 y (f_X3_drawFromGenerators x S).2) = mn (pl S 1 - mn (pl S 1) (x - q0 x S)) (y - q0 y (f_X3_drawFromGenerators x S).2) := by
    show mn (pl (f_X3_drawFromGenerators x S).2 1) _ = _
    rw [d1]
    rfl
  have k1 : q1 (x + y) S = q1 x S + q1 y (f_X3_drawFromGenerators x S).2 := by
    rw [l1]
    show mn (pl S 1) (x + y - q0 (x + y) S) = _
    rw [k0, r_split]
    exact t1
  have b1 : 0 ≤ (q1 x S).toInt ∧ (q1 x S).toInt ≤ x.toInt - (q0 x S).toInt := by rw [a2]; split <;> omega
  have b1' : 0 ≤ (q1 y (f_X3_drawFromGenerators x S).2).toInt ∧ (q1 y (f_X3_drawFromGenerators x S).2).toInt ≤ y.toInt - (q0 y (f_X3_drawFromGenerators x S).2).toInt := by rw [l1, ← y1]; exact t4
  have y2 : (y - (q0 y (f_X3_drawFromGenerators x S).2 + q1 y (f_X3_drawFromGenerators x S).2)).toInt = y.toInt - (q0 y (f_X3_drawFromGenerators x S).2).toInt - (q1 y (f_X3_drawFromGenerators x S).2).toInt := by rw [r_sub_sub, i_sub (by omega) (by omega), y1]
  obtain ⟨u1, -, -, -⟩ := stg (g := pl S 2) (a := x - (q0 x S + q1 x S)) (b := y - (q0 y (f_X3_drawFromGenerators x S).2 + q1 y (f_X3_drawFromGenerators x S).2)) (by omega) (by omega) (by omega)
  have k2 : q2 (x + y) S = q2 x S + q2 y (f_X3_drawFromGenerators x S).2 := by
    show mn (pl S 2) (x + y - (q0 (x + y) S + q1 (x + y) S)) = q2 x S + mn (pl (f_X3_drawFromGenerators x S).2 2) _
    rw [d2, k0, k1, show q0 x S + q0 y (f_X3_drawFromGenerators x S).2 + (q1 x S + q1 y (f_X3_drawFromGenerators x S).2) = (q0 x S + q1 x S) + (q0 y (f_X3_drawFromGenerators x S).2 + q1 y (f_X3_drawFromGenerators x S).2) by grind, r_split]
    exact u1
  have e1 : (f_X3_drawFromGenerators x S).2 = gvn S (S.2.2.2 0 8 + q0 x S) (S.2.2.2 1 8 + q1 x S) (S.2.2.2 2 8 + q2 x S) := by rw [draw_cl]
  rw [draw_cl (x + y) S, draw_cl y, k0, k1, k2]
  dsimp only
  rw [r_4, r_4, r_4]
  generalize q0 y (f_X3_drawFromGenerators x S).2 = z0
  generalize q1 y (f_X3_drawFromGenerators x S).2 = z1
  generalize q2 y (f_X3_drawFromGenerators x S).2 = z2
  rw [e1]
  show gvn S _ _ _ = gvn (gvn S _ _ _) _ _ _
  rw [gvn_gvn]
  rfl
def av (S : CS) : Int32 := pl S 0 + pl S 1 + pl S 2
theorem av_I (hp : plOk S) : (av S).toInt = (pl S 0).toInt + (pl S 1).toInt + (pl S 2).toInt := by
  have p0 := hp 0 (by decide)
  have p1 := hp 1 (by decide)
  have p2 := hp 2 (by decide)
  have e : (pl S 0 + pl S 1).toInt = (pl S 0).toInt + (pl S 1).toInt := i_add (by omega)
  unfold av
  rw [i_add (by omega), e]
theorem draw_t {x : Int32} (hp : plOk S) (hx : 0 ≤ x.toInt ∧ x.toInt ≤ 100000) : (f_X3_drawFromGenerators x S).1 = mn x (av S) := by
  have p0 := hp 0 (by decide)
  have p1 := hp 1 (by decide)
  have p2 := hp 2 (by decide)
  obtain ⟨a0, a1, a2, a3, a4, a5⟩ := q_bd hp hx
  have e := av_I hp
  rw [draw_cl, i_eq, mn_toInt, e]
  show (q0 x S + q1 x S + q2 x S).toInt = _
  rw [a5]
  split at a0 <;> split at a2 <;> split at a4 <;> split <;> omega
theorem draw_cap {x : Int32} (hp : plOk S) (hx : 0 ≤ x.toInt ∧ x.toInt ≤ 100000) : (f_X3_drawFromGenerators (mn x (av S)) S).2 = (f_X3_drawFromGenerators x S).2 := by
  have p0 := hp 0 (by decide)
  have p1 := hp 1 (by decide)
  have p2 := hp 2 (by decide)
  obtain ⟨a0, a1, a2, a3, a4, a5⟩ := q_bd hp hx
  have e := av_I hp
  have m := mn_toInt x (av S)
  obtain ⟨b0, b1, b2, b3, b4, b5⟩ := q_bd hp (x := mn x (av S)) (by split at m <;> omega)
  have k0 : q0 (mn x (av S)) S = q0 x S := by
    rw [i_eq]
    split at m <;> split at a0 <;> split at b0 <;> omega
  have k1 : q1 (mn x (av S)) S = q1 x S := by
    rw [i_eq]
    rw [k0] at b2
    split at m <;> split at a0 <;> split at a2 <;> split at b2 <;> omega
  have k2 : q2 (mn x (av S)) S = q2 x S := by
    rw [i_eq]
    rw [k0, k1] at b4
    split at m <;> split at a0 <;> split at a2 <;> split at a4 <;> split at b4 <;> omega
  rw [draw_cl, draw_cl, k0, k1, k2]
theorem av_d {x : Int32} (hp : plOk S) (hx : 0 ≤ x.toInt ∧ x.toInt ≤ (av S).toInt) : av (f_X3_drawFromGenerators x S).2 = av S - x := by
  have p0 := hp 0 (by decide)
  have p1 := hp 1 (by decide)
  have p2 := hp 2 (by decide)
  have e := av_I hp
  obtain ⟨a0, a1, a2, a3, a4, a5⟩ := q_bd hp (x := x) (by omega)
  obtain ⟨d0, d1, d2⟩ := pl_d hp (x := x) (by omega)
  have t : q0 x S + q1 x S + q2 x S = x := by
    rw [i_eq, a5]
    split at a0 <;> split at a2 <;> split at a4 <;> omega
  have : av (f_X3_drawFromGenerators x S).2 = av S - (q0 x S + q1 x S + q2 x S) := by
    unfold av
    rw [d0, d1, d2]
    grind
  rw [this, t]
theorem draw_0 (hp : plOk S) : (f_X3_drawFromGenerators 0 S).2 = S := by
  have p0 := hp 0 (by decide)
  have p1 := hp 1 (by decide)
  have p2 := hp 2 (by decide)
  have k0 : q0 0 S = 0 := mn_0r p0.1
  have k1 : q1 0 S = 0 := by unfold q1; rw [k0, r_sub0]; exact mn_0r p1.1
  have k2 : q2 0 S = 0 := by unfold q2; rw [k0, k1, i_add0, r_sub0]; exact mn_0r p2.1
  rw [draw_cl, k0, k1, k2]
  dsimp only
  rw [i_add0, i_add0, i_add0]
  exact gvn_same
theorem draw_M {x v : Int32} {k : Nat} : (f_X3_drawFromGenerators x (cuM S k v)).2 = cuM (f_X3_drawFromGenerators x S).2 k v ∧ (f_X3_drawFromGenerators x (cuM S k v)).1 = (f_X3_drawFromGenerators x S).1 := by
  have ep : ∀ j, pl (cuM S k v) j = pl S j := fun _ => rfl
  have e0 : q0 x (cuM S k v) = q0 x S := by unfold q0; rw [ep]
  have e1 : q1 x (cuM S k v) = q1 x S := by unfold q1; rw [ep, e0]
  have e2 : q2 x (cuM S k v) = q2 x S := by unfold q2; rw [ep, e0, e1]
  rw [draw_cl, draw_cl, e0, e1, e2]
  exact ⟨rfl, rfl⟩
theorem gvn_B {v w0 w1 w2 : Int32} {i k : Nat} : gvn (cuB S i k v) w0 w1 w2 = cuB (gvn S w0 w1 w2) i k v := rfl
theorem draw_B {x v : Int32} {i k : Nat} : (f_X3_drawFromGenerators x (cuB S i k v)).2 = cuB (f_X3_drawFromGenerators x S).2 i k v ∧ (f_X3_drawFromGenerators x (cuB S i k v)).1 = (f_X3_drawFromGenerators x S).1 := by
  have ep : ∀ j, pl (cuB S i k v) j = pl S j := fun _ => rfl
  have e0 : q0 x (cuB S i k v) = q0 x S := by unfold q0; rw [ep]
  have e1 : q1 x (cuB S i k v) = q1 x S := by unfold q1; rw [ep, e0]
  have e2 : q2 x (cuB S i k v) = q2 x S := by unfold q2; rw [ep, e0, e1]
  have eg : ∀ j, (cuB S i k v).2.2.2 j 8 = S.2.2.2 j 8 := fun _ => rfl
  rw [draw_cl, draw_cl, e0, e1, e2, eg, eg, eg, gvn_B]
  generalize S.2.2.2 0 8 + q0 x S = w0
  generalize S.2.2.2 1 8 + q1 x S = w1
  generalize S.2.2.2 2 8 + q2 x S = w2
  exact ⟨rfl, rfl⟩
theorem draw_o {x : Int32} : (f_X3_drawFromGenerators x S).2.1 = S.1 ∧ (f_X3_drawFromGenerators x S).2.2.1 = S.2.1 ∧ (f_X3_drawFromGenerators x S).2.2.2.1 = S.2.2.1 := by
  rw [draw_cl]
  exact ⟨rfl, rfl, rfl⟩
end DR
