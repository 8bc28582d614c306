/-! ===== fuel and wear; a minute; minutes ===== -/
section WR
variable {n : Nat × Nat × Nat} {d : Nat → Int32} {S : CS} {M : MS}
theorem r_49 (x : Int32) : x + 50 - 1 = x + 49 := by grind
def usM (gv : Int32) : Int32 := if gv = 0 then 1 else (gv + 49) / 50
theorem us_div {x : Int32} (h : 0 ≤ x.toInt ∧ x.toInt ≤ 1000) : ((x + 49) / 50).toInt = (x.toInt + 49) / 50 := by
  have i49 : (49 : Int32).toInt = 49 := by decide
  have i50 : (50 : Int32).toInt = 50 := by decide
  have e : (x + 49).toInt = x.toInt + 49 := by rw [i_add (by omega), i49]
  rw [Int32.toInt_div_of_ne_right _ _ (by decide), e, i50]
  exact Int.tdiv_eq_ediv_of_nonneg (by omega)
/-- what the class burns is what the model uses -/
theorem us_C {x : Int32} (h : 0 ≤ x.toInt ∧ x.toInt ≤ 1000) : (if 1 < (x + 50 - 1) / 50 then (x + 50 - 1) / 50 else 1) = usM x := by
  have e := us_div h
  unfold usM
  rw [r_49]
  by_cases c : x = 0
  · rw [if_pos c, c]
    decide
  · rw [if_neg c]
    have hx : ¬ x.toInt = 0 := fun z => c (by rw [i_eq, i_0]; exact z)
    by_cases c2 : 1 < (x + 49) / 50
    · rw [if_pos c2]
    · rw [if_neg c2, i_eq, i_1]
      rw [i_lt, i_1] at c2
      omega
theorem us_bd {x : Int32} (h : 0 ≤ x.toInt ∧ x.toInt ≤ 1000) : 1 ≤ (usM x).toInt ∧ (usM x).toInt ≤ 100 := by
  have e := us_div h
  unfold usM
  split
  · rw [i_1]; omega
  · rename_i c
    have hx : ¬ x.toInt = 0 := fun z => c (by rw [i_eq, i_0]; exact z)
    omega
theorem burn_f {f u : Int32} (hf : 0 ≤ f.toInt ∧ f.toInt ≤ 1000) (hu : 1 ≤ u.toInt ∧ u.toInt ≤ 100) : (if 0 < f - u then f - u else 0) = f - mn u f := by
  have e1 : (f - u).toInt = f.toInt - u.toInt := i_sub (by omega) (by omega)
  have e2 := mn_toInt u f
  have e3 : (f - mn u f).toInt = f.toInt - (mn u f).toInt := i_sub (by omega) (by split at e2 <;> omega)
  rw [i_eq, e3]
  by_cases c : 0 < f - u
  · rw [if_pos c]
    rw [i_lt, i_0] at c
    split at e2 <;> omega
  · rw [if_neg c, i_0]
    rw [i_lt, i_0] at c
    split at e2 <;> omega
def fu (M : MS) (k : Nat) : Int32 := M.2 15 k - mn (usM (M.2 20 k)) (M.2 15 k)
theorem fu_bd (h : Iv n d S M) (k : Nat) : 0 ≤ (fu M k).toInt ∧ (fu M k).toInt ≤ (M.2 14 k).toInt := by
  have hb := h.bg k
  have hu := us_bd (x := M.2 20 k) (by omega)
  have e2 := mn_toInt (usM (M.2 20 k)) (M.2 15 k)
  have e3 : (fu M k).toInt = (M.2 15 k).toInt - (mn (usM (M.2 20 k)) (M.2 15 k)).toInt := i_sub (by omega) (by split at e2 <;> omega)
  rw [e3]
  split at e2 <;> omega
theorem burn_eq (h : Iv n d S M) (k : Nat) : f_X1_burnFuel k S = if M.2 16 k = 2 then (if fu M k = 0 then f_X1_stopFailing k (cuG S k 3 (fu M k)) else cuG S k 3 (fu M k)) else S := by
  have hb := h.bg k
  have hu := us_bd (x := M.2 20 k) (by omega)
  unfold f_X1_burnFuel f_X1_burnFuel_c48 f_X1_burnFuel_b51
  rw [eG 4 16 (by omega) rfl h, eG 3 15 (by omega) rfl h, eG 8 20 (by omega) rfl h, us_C (by omega), burn_f (by omega) hu]
  have w9 : (cuG S k 3 (fu M k)).2.2.2 k 3 = fu M k := by rw [rdG, if_pos ⟨rfl, rfl⟩]
  show (if M.2 16 k = 2 then (if (cuG S k 3 (fu M k)).2.2.2 k 3 = 0 then f_X1_stopFailing k (cuG S k 3 (fu M k)) else cuG S k 3 (fu M k)) else S) = _
  rw [w9]
def weM (n : Nat × Nat × Nat) (k : Nat) (M : MS) : MS := if M.2 16 k = 2 then (if fu M k = 0 then f_X4_stops n k (muA (muA (muA M 19 k (M.2 19 k + 1)) 15 k (fu M k)) 26 k (M.2 26 k + if M.2 17 k = 0 then 0 else 1)) else muA (muA M 19 k (M.2 19 k + 1)) 15 k (fu M k)) else M
theorem weM_lp (n : Nat × Nat × Nat) (M : MS) : f_X4_wears n M = f_X4_wears_h120 n (n.2.1 + 1) 0 (itr (weM n) n.2.2 M) := by
  refine lpI (H := fun q k s => f_X4_wears_h2 n q k s) (B := n.2.2) (fin := fun s => f_X4_wears_h120 n (n.2.1 + 1) 0 s) (st := weM n) (fun q k s => ?_) M
  rw [f_X4_wears_h2]
  by_cases c : n.2.2 ≤ k
  · rw [if_pos c, if_pos c]
  · rw [if_neg c, if_neg c]
    unfold weM f_X4_wears_b112
    by_cases c2 : s.2 16 k = 2
    · rw [if_pos c2, if_pos c2]
      have g20 : (muA s 19 k (s.2 19 k + 1)).2 20 k = s.2 20 k := by rw [rdA, if_neg (by omega)]
      have g15 : (muA s 19 k (s.2 19 k + 1)).2 15 k = s.2 15 k := by rw [rdA, if_neg (by omega)]
      have key : ∀ u, u = usM (s.2 20 k) → f_X4_wears_b55 n (f_X4_wears_h2 n q) k (muA s 19 k (s.2 19 k + 1)) u = f_X4_wears_h2 n q (k + 1) (if fu s k = 0 then f_X4_stops n k (muA (muA (muA s 19 k (s.2 19 k + 1)) 15 k (fu s k)) 26 k (s.2 26 k + if s.2 17 k = 0 then 0 else 1)) else muA (muA s 19 k (s.2 19 k + 1)) 15 k (fu s k)) := by
        intro u hu
        subst hu
        unfold f_X4_wears_b55
        rw [lesser_mn]
        unfold f_X4_wears_c70
        dsimp only
        rw [g15]
        have ef : s.2 15 k - mn (usM (s.2 20 k)) (s.2 15 k) = fu s k := rfl
        rw [ef]
        have w15 : (muA (muA s 19 k (s.2 19 k + 1)) 15 k (fu s k)).2 15 k = fu s k := by rw [rdA, if_pos ⟨rfl, rfl⟩]
        have w17 : (muA (muA s 19 k (s.2 19 k + 1)) 15 k (fu s k)).2 17 k = s.2 17 k := by rw [rdA, if_neg (by omega), rdA, if_neg (by omega)]
        have w26 : (muA (muA s 19 k (s.2 19 k + 1)) 15 k (fu s k)).2 26 k = s.2 26 k := by rw [rdA, if_neg (by omega), rdA, if_neg (by omega)]
        rw [w15, w17, w26]
        unfold f_X4_wears_b105 f_X4_wears_c109 f_X4_wears_b112
        by_cases c3 : fu s k = 0
        · rw [if_pos c3, if_pos c3]
          by_cases c4 : s.2 17 k = 0
          · rw [if_pos c4, if_pos c4]
          · rw [if_neg c4, if_neg c4]
        · rw [if_neg c3, if_neg c3]
      rw [g20]
      by_cases c3 : s.2 20 k = 0
      · rw [if_pos c3]
        exact key _ (by unfold usM; rw [if_pos c3])
      · rw [if_neg c3]
        exact key _ (by unfold usM; rw [if_neg c3])
    · rw [if_neg c2, if_neg c2]
set_option maxHeartbeats 4000000 in
theorem we_R {k : Nat} (h : Iv n d S M) (hk : k < n.2.2) (h0 : d k = 1) : Iv n (dup d k 0) (f_X1_burnFuel k S) (weM n k M) := by
  have e0 := eG 0 12 (by omega) rfl h k
  have e1 := eG 1 13 (by omega) rfl h k
  have e2 := eG 2 14 (by omega) rfl h k
  have e3 := eG 3 15 (by omega) rfl h k
  have e4 := eG 4 16 (by omega) rfl h k
  have e5 := eG 5 17 (by omega) rfl h k
  have e6 := eG 6 18 (by omega) rfl h k
  have e8 := eG 8 20 (by omega) rfl h k
  have e9 := eG 9 21 (by omega) rfl h k
  have e10 := eG 10 24 (by omega) rfl h k
  have e11 := eG 11 22 (by omega) rfl h k
  have e12 := eG 12 23 (by omega) rfl h k
  have e13 := eG 13 25 (by omega) rfl h k
  have e14 := eG 14 26 (by omega) rfl h k
  have g20 := (h.bg k).1
  have g15 := fu_bd h k
  have g16 := (h.bg k).2.2
  have hrr := h.rr k
  rw [burn_eq h k]
  unfold weM f_X1_stopFailing f_X1_stopFailing_b17 f_X4_stops
  simp only [rdG, rdA, e0, e1, e2, e3, e4, e5, e6, e8, e9, e10, e11, e12, e13, e14, eq_self, and_self, and_true, true_and, and_false, false_and, if_true, if_false, Nat.reduceEqDiff, one0, two0, one2, zer2, two1, zer1]
  by_cases c : M.2 16 k = 2
  · by_cases c2 : fu M k = 0
    · by_cases c3 : M.2 17 k = 0
      · simp only [c, c2, c3, if_true, if_false, one0, ite_self]
        refine Iv_gen h hk ?_ ⟨rfl, rfl, rfl⟩ rfl (fun r i hri => ?_) (fun i j hij => ?_) (fun i hi => dup_n hi) ?_ ?_ ?_ (fun z1 z2 => ?_)
        · simp [rdG, rdA, e0, e1, e2, e3, e4, e5, e6, e8, e9, e10, e11, e12, e13, e14, c, c3]
        · simp only [rdA]
          repeat rw [if_neg (by omega)]
        · simp only [rdG]
          repeat rw [if_neg (by omega)]
        · simp [rdA]; omega
        · simp [rdA]; omega
        · simp [rdA, c, c3]
        · simp [rdA, c, c3] at z1 z2
      · simp only [c, c2, c3, if_true, if_false, one0, ite_self]
        refine Iv_gen h hk ?_ ⟨rfl, rfl, rfl⟩ rfl (fun r i hri => ?_) (fun i j hij => ?_) (fun i hi => dup_n hi) ?_ ?_ ?_ (fun z1 z2 => ?_)
        · simp [rdG, rdA, e0, e1, e2, e3, e4, e5, e6, e8, e9, e10, e11, e12, e13, e14, c]
        · simp only [rdA]
          repeat rw [if_neg (by omega)]
        · simp only [rdG]
          repeat rw [if_neg (by omega)]
        · simp [rdA]; omega
        · simp [rdA]; omega
        · simp [rdA, c]
        · simp [rdA, c] at z1 z2
    · simp only [c, c2, if_true, if_false, one0, ite_self]
      refine Iv_gen h hk ?_ ⟨rfl, rfl, rfl⟩ rfl (fun r i hri => ?_) (fun i j hij => ?_) (fun i hi => dup_n hi) ?_ ?_ ?_ (fun z1 z2 => ?_)
      · simp [rdG, rdA, e0, e1, e2, e3, e4, e5, e6, e8, e9, e10, e11, e12, e13, e14, c]
      · simp only [rdA]
        repeat rw [if_neg (by omega)]
      · simp only [rdG]
        repeat rw [if_neg (by omega)]
      · simp [rdA]; omega
      · simp [rdA]; omega
      · simp [rdA, c]
      · simp [rdA] at z1 z2; simp [rdG, rdA, dup_s, hrr z1 z2, h0]
  · simp only [c, if_false]
    obtain ⟨r, a, z, hL, hT, hG, hRR, hm, hn⟩ := h
    refine ⟨r, a, z, hL, hT, hG, fun i h1 h2 => ?_, hm, hn⟩
    have hne : i ≠ k := fun e => c (e ▸ h1)
    rw [dup_n hne]
    exact hRR i h1 h2
theorem burn_pad {k : Nat} (h : Iv n d S M) (hk : n.2.2 ≤ k) : f_X1_burnFuel k S = S := by
  rw [burn_eq h k, (gn0 h hk).2.1, if_neg (by decide)]
theorem burn_lp (S : CS) (v : Int32) : f_X3_passOneMinute_h114 4 0 S v = f_X3_passOneMinute_h148 4 0 (itr f_X1_burnFuel 3 S) v := by
  refine lpI (H := fun q k s => f_X3_passOneMinute_h114 q k s v) (B := 3) (fin := fun s => f_X3_passOneMinute_h148 4 0 s v) (st := f_X1_burnFuel) (fun q k s => ?_) S
  rw [f_X3_passOneMinute_h114]
  rfl
def d10 (k : Nat) : Nat → Int32 := fun i => if i < k then 0 else d01 3 i
theorem burn_all (h : Iv n (d01 3) S M) : Iv n (d01 0) (itr f_X1_burnFuel 3 S) (itr (weM n) n.2.2 M) := by
  have main : Iv n (d10 3) (itr f_X1_burnFuel 3 S) (itr (weM n) n.2.2 M) := by
    refine itS (P := fun k S M => Iv n (d10 k) S M) h.ok.2.2 (fun k S M hk h => ?_) (fun k S M hk _ h => ?_) (RR_d h (fun i _ => by unfold d10; rw [if_neg (by omega)]))
    · have hn := h.ok.2.2
      refine RR_d (we_R h hk (by unfold d10 d01; rw [if_neg (by omega), if_pos (by omega)])) (fun i _ => ?_)
      show (if i < k + 1 then (0 : Int32) else d01 3 i) = if i = k then 0 else if i < k then 0 else d01 3 i
      by_cases c : i = k
      · rw [if_pos (by omega), if_pos c]
      · rw [if_neg c]
        by_cases c2 : i < k
        · rw [if_pos (by omega), if_pos c2]
        · rw [if_neg (by omega), if_neg c2]
    · rw [burn_pad h hk]
      refine RR_d h (fun i hi => ?_)
      unfold d10
      rw [if_pos (by omega), if_pos (by omega)]
  refine RR_d main (fun i hi => ?_)
  have hn := h.ok.2.2
  unfold d10 d01
  rw [if_neg (by omega), if_pos (by omega)]
def wrM (k : Nat) (M : MS) : MS := muA M 6 k (M.2 6 k - if 0 < M.2 10 k ∧ M.2 7 k = 0 ∧ 1 < M.2 6 k then 1 else 0)
theorem wrM_lp (n : Nat × Nat × Nat) (M : MS) : f_X4_wears_h120 n (n.2.1 + 1) 0 M = itr wrM n.2.1 M := by
  refine lpI (H := fun q k s => f_X4_wears_h120 n q k s) (B := n.2.1) (fin := fun s => s) (st := wrM) (fun q k s => ?_) M
  rw [f_X4_wears_h120]
  unfold f_X4_wears_b167 f_X4_wears_b168 wrM
  by_cases c : n.2.1 ≤ k
  · rw [if_pos c, if_pos c]
  · rw [if_neg c, if_neg c]
    by_cases c1 : s.2 10 k ≤ 0
    · rw [if_pos c1, if_neg (fun z => by have := z.1; rw [i_lt] at this; rw [i_le] at c1; omega)]
    · rw [if_neg c1]
      by_cases c2 : s.2 7 k = 0
      · rw [if_pos c2]
        by_cases c3 : s.2 6 k ≤ 1
        · rw [if_pos c3, if_neg (fun z => by have := z.2.2; rw [i_lt] at this; rw [i_le] at c3; omega)]
        · rw [if_neg c3, if_pos ⟨by rw [i_lt]; rw [i_le] at c1; omega, c2, by rw [i_lt]; rw [i_le] at c3; omega⟩]
      · rw [if_neg c2, if_neg (fun z => c2 z.2.1)]
theorem wear_eq (h : Iv n d S M) (k : Nat) : f_X0_wearOut k S = cuB S k 0 (M.2 6 k - if 0 < M.2 10 k ∧ M.2 7 k = 0 ∧ 1 < M.2 6 k then 1 else 0) := by
  unfold f_X0_wearOut f_X0_wearOut_b32
  rw [eB 4 10 (by omega) rfl h, eB 1 7 (by omega) rfl h, eB 0 6 (by omega) rfl h]
  have same : cuB S k 0 (M.2 6 k - 0) = S := cuB_same (by rw [r_sub0, eB 0 6 (by omega) rfl h])
  by_cases c1 : M.2 10 k ≤ 0
  · rw [if_pos c1, if_neg (fun z => by have := z.1; rw [i_lt] at this; rw [i_le] at c1; omega), same]
  · rw [if_neg c1]
    by_cases c2 : M.2 7 k = 0
    · rw [if_pos c2]
      by_cases c3 : M.2 6 k ≤ 1
      · rw [if_pos c3, if_neg (fun z => by have := z.2.2; rw [i_lt] at this; rw [i_le] at c3; omega), same]
      · rw [if_neg c3, if_pos ⟨by rw [i_lt]; rw [i_le] at c1; omega, c2, by rw [i_lt]; rw [i_le] at c3; omega⟩]
    · rw [if_neg c2, if_neg (fun z => c2 z.2.1), same]
theorem wear_lp (S : CS) (v : Int32) : f_X3_passOneMinute_h148 4 0 S v = (v, itr f_X0_wearOut 3 S) := by
  refine lpI (H := fun q k s => f_X3_passOneMinute_h148 q k s v) (B := 3) (fin := fun s => (v, s)) (st := f_X0_wearOut) (fun q k s => ?_) S
  rw [f_X3_passOneMinute_h148]
  rfl
theorem wear_all (h : Iv n d S M) : Iv n d (itr f_X0_wearOut 3 S) (itr wrM n.2.1 M) := by
  refine itS (P := fun _ S M => Iv n d S M) h.ok.2.1 (fun k S M hk h => ?_) (fun k S M hk _ h => ?_) h
  · rw [wear_eq h k]
    unfold wrM
    have hb := h.bt k
    have i1 := i_1
    by_cases c : 0 < M.2 10 k ∧ M.2 7 k = 0 ∧ 1 < M.2 6 k
    · rw [if_pos c]
      obtain ⟨c1, c2, c3⟩ := c
      rw [i_lt] at c3
      have e : (M.2 6 k - 1).toInt = (M.2 6 k).toInt - 1 := by rw [i_sub (by omega) (by omega), i1]
      have z0 : (M.2 7 k).toInt = 0 := by rw [c2]; exact i_0
      exact I_wr hk h (by omega) (by omega)
    · rw [if_neg c, r_sub0]
      exact I_wr hk h (by omega) (by omega)
  · rw [wear_eq h k, (bt0 h hk).2.2.1, if_neg (fun z => absurd z.1 (by decide)), r_sub0, cuB_same (eB 0 6 (by omega) rfl h k)]
    exact h
-- the charges ahead of a minute
def ahC (k : Nat) (S : CS) : CS := cuB S k 4 (S.2.2.1 k 1)
def ahR (k : Nat) (M : MS) : MS := muA M 10 k (M.2 7 k)
theorem ah_all {t a : Int32} (h : Iv n d (cuM (cuM S 7 t) 8 a) M) : Iv n d (cuM (cuM (itr ahC 3 S) 7 t) 8 a) (itr ahR n.2.1 M) := by
  refine itS (P := fun _ S M => Iv n d (cuM (cuM S 7 t) 8 a) M) h.ok.2.1 (fun k S M hk h => ?_) (fun k S M hk _ h => ?_) h
  · have e1 : S.2.2.1 k 1 = M.2 7 k := eB 1 7 (by omega) rfl h k
    unfold ahC ahR
    rw [e1]
    exact I_ah hk h
  · have e1 : S.2.2.1 k 1 = M.2 7 k := eB 1 7 (by omega) rfl h k
    have e4 : S.2.2.1 k 4 = M.2 10 k := eB 4 10 (by omega) rfl h k
    have e9 : ahC k S = S := cuB_same (by rw [e4, e1, (bt0 h hk).2.1, (bt0 h hk).2.2.1])
    rw [e9]
    exact h
theorem ah_1 : (itr ahC 3 S).1 = S.1 := itP (P := fun _ (s : CS) => s.1 = S.1) (st := ahC) (B := 3) (S := S) (fun k s _ hs => hs) rfl
theorem ahR_lp (n : Nat × Nat × Nat) (M : MS) : f_X4_minute_h33 n (n.2.1 + 1) 0 M = f_X4_minute_h61 n (n.2.2 + 1) 0 (itr ahR n.2.1 M) := by
  refine lpI (H := fun q k s => f_X4_minute_h33 n q k s) (B := n.2.1) (fin := fun s => f_X4_minute_h61 n (n.2.2 + 1) 0 s) (st := ahR) (fun q k s => ?_) M
  rw [f_X4_minute_h33]
  rfl
theorem ahC_lp (S : CS) : f_X3_passOneMinute S = f_X3_passOneMinute_b64 (cuM (itr ahC 3 S) 7 (S.1 7 + 1)) (if S.1 6 = 0 then S.1 8 + 1 else 0) := by
  have e := lpI (H := f_X3_passOneMinute_h10) (B := 3) (fin := fun S10 => if ((cuM S10 7 ((S10.1 7) + 1)).1 6) = 0 then (f_X3_passOneMinute_b64 (cuM S10 7 ((S10.1 7) + 1)) (((cuM S10 7 ((S10.1 7) + 1)).1 8) + 1)) else (f_X3_passOneMinute_b64 (cuM S10 7 ((S10.1 7) + 1)) 0)) (st := ahC) (fun q k s => by rw [f_X3_passOneMinute_h10]; rfl) S
  have w6 : (cuM (itr ahC 3 S) 7 (S.1 7 + 1)).1 6 = S.1 6 := by rw [rdM, if_neg (by omega), ah_1]
  have w8 : (cuM (itr ahC 3 S) 7 (S.1 7 + 1)).1 8 = S.1 8 := by rw [rdM, if_neg (by omega), ah_1]
  unfold f_X3_passOneMinute
  rw [e, ah_1, w6, w8]
  by_cases c : S.1 6 = 0
  · rw [if_pos c, if_pos c]
  · rw [if_neg c, if_neg c]
/-- the minute's end, from the serving on -/
theorem end_R (v : Int32) (h : Iv n (d01 3) S M) : (f_X3_passOneMinute_b95 S v).1 = (f_X4_minute_b135 n M v).1 ∧ Iv n (d01 0) (f_X3_passOneMinute_b95 S v).2 (f_X4_minute_b135 n M v).2 := by
  have eC : f_X3_passOneMinute_b95 S v = (v, itr f_X0_wearOut 3 (itr f_X1_burnFuel 3 (f_X3_chargeBatteries (f_X3_serveLoads S)))) := by
    unfold f_X3_passOneMinute_b95 f_X3_passOneMinute_c96 f_X3_passOneMinute_c100
    rw [burn_lp, wear_lp]
  have eM : f_X4_minute_b135 n M v = (v, itr wrM n.2.1 (itr (weM n) n.2.2 (f_X4_charges n (f_X4_serves n M)))) := by
    unfold f_X4_minute_b135 f_X4_minute_c136 f_X4_minute_c140 f_X4_minute_c144
    rw [weM_lp, wrM_lp]
  have h3 := charge_R (serve_R h)
  rw [eC, eM]
  generalize f_X3_chargeBatteries (f_X3_serveLoads S) = S9 at h3 ⊢
  generalize f_X4_charges n (f_X4_serves n M) = M9 at h3 ⊢
  have h4 := burn_all h3
  generalize itr f_X1_burnFuel 3 S9 = S8 at h4 ⊢
  generalize itr (weM n) n.2.2 M9 = M8 at h4 ⊢
  have h5 := wear_all h4
  generalize itr f_X0_wearOut 3 S8 = S7 at h5 ⊢
  exact ⟨rfl, h5⟩
theorem minute_R (h : Iv n (d01 0) S M) : (f_X3_passOneMinute S).1 = (f_X4_minute n M).1 ∧ Iv n (d01 0) (f_X3_passOneMinute S).2 (f_X4_minute n M).2 := by
  have e7 := eS 7 1 (by omega) rfl h
  have e6 := eS 6 2 (by omega) rfl h
  have e8 := eS 8 3 (by omega) rfl h
  have em : f_X4_minute n M = f_X4_minute_b28 n (muS M 1 (M.1 1 + 1)) (if M.1 2 = 0 then M.1 3 + 1 else 0) := by
    have w2 : (muS M 1 (M.1 1 + 1)).1 2 = M.1 2 := by rw [rdS, if_neg (by omega)]
    have w3 : (muS M 1 (M.1 1 + 1)).1 3 = M.1 3 := by rw [rdS, if_neg (by omega)]
    unfold f_X4_minute
    rw [w2, w3]
    by_cases c : M.1 2 = 0
    · rw [if_pos c, if_pos c]
    · rw [if_neg c, if_neg c]
  rw [ahC_lp, em, e7, e6, e8]
  unfold f_X3_passOneMinute_b64 f_X4_minute_b28
  rw [ahR_lp, mvM_lp]
  have h1 : Iv n (d01 0) (cuM (cuM S 7 (M.1 1 + 1)) 8 (if M.1 2 = 0 then M.1 3 + 1 else 0)) (muS (muS M 1 (M.1 1 + 1)) 3 (if M.1 2 = 0 then M.1 3 + 1 else 0)) := I_sc 8 3 (by omega) rfl (I_sc 7 1 (by omega) rfl h)
  have h2 := mv_all (ah_all h1)
  generalize f_X3_moveGenerators (cuM (cuM (itr ahC 3 S) 7 (M.1 1 + 1)) 8 (if M.1 2 = 0 then M.1 3 + 1 else 0)) = S2 at h2 ⊢
  generalize itr (mvM n) n.2.2 (itr ahR n.2.1 (muS (muS M 1 (M.1 1 + 1)) 3 (if M.1 2 = 0 then M.1 3 + 1 else 0))) = M2 at h2 ⊢
  have fin : ∀ (p : Int32 × CS) (q : Int32 × MS), p.1 = q.1 → Iv n (d01 3) p.2 q.2 → (f_X3_passOneMinute_b86 p.2 p.1).1 = (f_X4_minute_c123 n q).1 ∧ Iv n (d01 0) (f_X3_passOneMinute_b86 p.2 p.1).2 (f_X4_minute_c123 n q).2 := by
    intro p q e hI
    unfold f_X3_passOneMinute_b86 f_X3_passOneMinute_c92 f_X4_minute_c123 f_X4_minute_c132
    rw [e]
    by_cases c : q.1 = 0
    · rw [if_pos c, if_pos c]
      exact end_R q.1 (ret_R hI)
    · rw [if_neg c, if_neg c]
      exact end_R q.1 hI
  unfold f_X3_passOneMinute_c68 f_X3_passOneMinute_c83
  rw [eS 6 2 (by omega) rfl h2]
  by_cases c : M2.1 2 = 0
  · rw [if_pos c]
    obtain ⟨a1, a2⟩ := shed_R h2 c
    exact fin (f_X3_shedLoads S2) (f_X4_sheds n M2) a1 a2
  · rw [if_neg c]
    rw [shed_up c]
    exact fin (0, S2) (0, M2) rfl h2
end WR
