/-! ===== plain facts: numbers, sums, loops; sums of the class ===== -/
theorem i_le (a b : Int32) : a ≤ b ↔ a.toInt ≤ b.toInt := Int32.le_iff_toInt_le
theorem i_lt (a b : Int32) : a < b ↔ a.toInt < b.toInt := Int32.lt_iff_toInt_lt
def cnt (P : Nat → Bool) : Nat → Nat
  | 0 => 0
  | m + 1 => cnt P m + if P m = true then 1 else 0
theorem cnt_le (P : Nat → Bool) (m : Nat) : cnt P m ≤ m := by
  induction m with
  | zero => exact Nat.le_refl 0
  | succ m ih => unfold cnt; split <;> omega
theorem cnt_zero {P : Nat → Bool} {m : Nat} : cnt P m = 0 ↔ ∀ j, j < m → P j = false := by
  induction m with
  | zero => exact ⟨fun _ j h => absurd h (Nat.not_lt_zero j), fun _ => rfl⟩
  | succ m ih =>
    unfold cnt
    constructor
    · intro h j hj
      by_cases hm : P m = true
      · rw [if_pos hm] at h; omega
      · rw [if_neg hm] at h
        rcases Nat.lt_or_ge j m with q | q
        · exact ih.mp (by omega) j q
        · have e : j = m := by omega
          subst e
          simpa using hm
    · intro h
      rw [ih.mpr (fun j hj => h j (by omega)), if_neg (by rw [h m (by omega)]; decide)]
theorem cnt_congr {P P' : Nat → Bool} {m : Nat} (h : ∀ j, j < m → P j = P' j) : cnt P m = cnt P' m := by
  induction m with
  | zero => rfl
  | succ m ih => unfold cnt; rw [ih (fun j hj => h j (by omega)), h m (by omega)]
theorem cnt_ext {P P' : Nat → Bool} {m m' : Nat} (hm : m ≤ m') (h : ∀ j, j < m → P j = P' j) (h2 : ∀ j, m ≤ j → j < m' → P' j = false) : cnt P m = cnt P' m' := by
  induction m' with
  | zero =>
    have e : m = 0 := by omega
    subst e
    rfl
  | succ m' ih =>
    rcases Nat.lt_or_ge m (m' + 1) with q | q
    · have h3 := ih (by omega) (fun j h1 h3 => h2 j h1 (by omega))
      show _ = cnt P' m' + _
      rw [h2 m' (by omega) (by omega), if_neg (by decide)]
      exact h3
    · have e : m = m' + 1 := by omega
      subst e
      exact cnt_congr h
def sm (g : Nat → Int32) : Nat → Int32
  | 0 => 0
  | m + 1 => sm g m + g m
theorem sm_congr {g g' : Nat → Int32} {m : Nat} (h : ∀ j, j < m → g j = g' j) : sm g m = sm g' m := by
  induction m with
  | zero => rfl
  | succ m ih => unfold sm; rw [ih (fun j hj => h j (by omega)), h m (by omega)]
theorem i_add0 (x : Int32) : x + 0 = x := Int32.add_zero x
theorem sm_ext {g g' : Nat → Int32} {m m' : Nat} (hm : m ≤ m') (h : ∀ j, j < m → g j = g' j) (h2 : ∀ j, m ≤ j → j < m' → g' j = 0) : sm g m = sm g' m' := by
  induction m' with
  | zero =>
    have e : m = 0 := by omega
    subst e
    rfl
  | succ m' ih =>
    rcases Nat.lt_or_ge m (m' + 1) with q | q
    · have h3 := ih (by omega) (fun j h1 h3 => h2 j h1 (by omega))
      show _ = sm g' m' + _
      rw [h2 m' (by omega) (by omega), i_add0]
      exact h3
    · have e : m = m' + 1 := by omega
      subst e
      exact sm_congr h
theorem sm_zero {g : Nat → Int32} {m : Nat} (h : ∀ j, j < m → g j = 0) : sm g m = 0 := by
  induction m with
  | zero => rfl
  | succ m ih => unfold sm; rw [ih (fun j hj => h j (by omega)), h m (by omega)]; rfl
theorem i_sub {x y : Int32} (hx : -1000000000 ≤ x.toInt ∧ x.toInt ≤ 1000000000) (hy : -1000000000 ≤ y.toInt ∧ y.toInt ≤ 1000000000) : (x - y).toInt = x.toInt - y.toInt := by
  rw [Int32.toInt_sub]
  exact Int.bmod_eq_of_le (by omega) (by omega)
theorem i_add {x y : Int32} (h : -2000000000 ≤ x.toInt + y.toInt ∧ x.toInt + y.toInt ≤ 2000000000) : (x + y).toInt = x.toInt + y.toInt := by
  rw [Int32.toInt_add]
  exact Int.bmod_eq_of_le (by omega) (by omega)
theorem i_eq (a b : Int32) : a = b ↔ a.toInt = b.toInt := ⟨fun h => by rw [h], fun h => Int32.toInt_inj.mp h⟩
theorem i_0 : (0 : Int32).toInt = 0 := by decide
theorem i_1 : (1 : Int32).toInt = 1 := by decide
theorem i_2 : (2 : Int32).toInt = 2 := by decide
def srd (st pw : Nat → Int32) (k : Nat) : Int32 := if st k = 1 then pw k else 0
def gvs (md ts st : Nat → Int32) (k : Nat) : Int32 := if md k = 2 ∧ ts k = 0 then st k else 0
def mn (x y : Int32) : Int32 := if x < y then x else y
theorem sm_bd {g : Nat → Int32} {m : Nat} {B : Int} (hm : m ≤ 10) (hB : 0 ≤ B ∧ B ≤ 100000) (h : ∀ k, k < m → 0 ≤ (g k).toInt ∧ (g k).toInt ≤ B) : 0 ≤ (sm g m).toInt ∧ (sm g m).toInt ≤ m * B := by
  induction m with
  | zero => exact ⟨by show 0 ≤ (0 : Int32).toInt; rw [i_0]; omega, by show (0 : Int32).toInt ≤ _; rw [i_0]; simp⟩
  | succ m ih =>
    have h1 := ih (by omega) (fun k hk => h k (by omega))
    have h2 := h m (by omega)
    have h4 : ((m : Int) + 1) * B = m * B + B := by rw [Int.add_mul, Int.one_mul]
    have h5 : (m : Int) * B ≤ 10 * 100000 := by
      have : (m : Int) * B ≤ 10 * B := Int.mul_le_mul_of_nonneg_right (by omega) hB.1
      omega
    have h3 : (sm g m + g m).toInt = (sm g m).toInt + (g m).toInt := i_add (by omega)
    refine ⟨by show 0 ≤ (sm g m + g m).toInt; omega, ?_⟩
    show (sm g m + g m).toInt ≤ ((m + 1 : Nat) : Int) * B
    rw [show ((m + 1 : Nat) : Int) = (m : Int) + 1 by omega, h4]
    omega
theorem mn_toInt (x y : Int32) : (mn x y).toInt = if x.toInt < y.toInt then x.toInt else y.toInt := by
  unfold mn
  by_cases c : x < y
  · rw [if_pos c, if_pos ((i_lt _ _).mp c)]
  · rw [if_neg c, if_neg (fun z => c ((i_lt _ _).mpr z))]
theorem up2_same {f : Nat → Nat → Int32} {i j : Nat} {v : Int32} (h : f i j = v) : up2 f i j v = f := by
  funext a b
  unfold up2
  split
  · rename_i c
    rw [c.1, c.2, h]
  · rfl
theorem cuG_same {S : CS} {i k : Nat} {v : Int32} (h : S.2.2.2 i k = v) : cuG S i k v = S := by unfold cuG; rw [up2_same h]
theorem cuB_same {S : CS} {i k : Nat} {v : Int32} (h : S.2.2.1 i k = v) : cuB S i k v = S := by unfold cuB; rw [up2_same h]
theorem cuL_same {S : CS} {i k : Nat} {v : Int32} (h : S.2.1 i k = v) : cuL S i k v = S := by unfold cuL; rw [up2_same h]
theorem up1_same {f : Nat → Int32} {k : Nat} {v : Int32} (h : f k = v) : up1 f k v = f := by
  funext a
  unfold up1
  split
  · rename_i c
    rw [c, h]
  · rfl
theorem cuM_same {S : CS} {k : Nat} {v : Int32} (h : S.1 k = v) : cuM S k v = S := by unfold cuM; rw [up1_same h]
theorem rdG {S : CS} {i j a b : Nat} {v : Int32} : (cuG S i j v).2.2.2 a b = if a = i ∧ b = j then v else S.2.2.2 a b := rfl
theorem rdB {S : CS} {i j a b : Nat} {v : Int32} : (cuB S i j v).2.2.1 a b = if a = i ∧ b = j then v else S.2.2.1 a b := rfl
theorem rdL {S : CS} {i j a b : Nat} {v : Int32} : (cuL S i j v).2.1 a b = if a = i ∧ b = j then v else S.2.1 a b := rfl
theorem rdM {S : CS} {k j : Nat} {v : Int32} : (cuM S k v).1 j = if j = k then v else S.1 j := rfl
theorem rdG1 {S : CS} {i j : Nat} {v : Int32} : (cuG S i j v).1 = S.1 := rfl
theorem rdB1 {S : CS} {i j : Nat} {v : Int32} : (cuB S i j v).1 = S.1 := rfl
theorem rdL1 {S : CS} {i j : Nat} {v : Int32} : (cuL S i j v).1 = S.1 := rfl
def itr {σ : Type} (st : Nat → σ → σ) : Nat → σ → σ
  | 0, S => S
  | m + 1, S => st m (itr st m S)
theorem lpI {σ ρ : Type} {H : Nat → Nat → σ → ρ} {B : Nat} {fin : σ → ρ} {st : Nat → σ → σ} (hH : ∀ q k S, H (q + 1) k S = if B ≤ k then fin S else H q (k + 1) (st k S)) (S : σ) : H (B + 1) 0 S = fin (itr st B S) := by
  have main : ∀ q k, k ≤ B → B < k + q → H q k (itr st k S) = fin (itr st B S) := by
    intro q
    induction q with
    | zero => intro k h1 h2; omega
    | succ q ih =>
      intro k h1 h2
      rw [hH]
      by_cases c : B ≤ k
      · have e : k = B := by omega
        rw [if_pos c, e]
      · rw [if_neg c]
        exact ih (k + 1) (by omega) (by omega)
  exact main (B + 1) 0 (Nat.zero_le _) (by omega)
theorem itP {σ : Type} {P : Nat → σ → Prop} {st : Nat → σ → σ} {B : Nat} (h1 : ∀ k S, k < B → P k S → P (k + 1) (st k S)) {S : σ} (h : P 0 S) : P B (itr st B S) := by
  have a1 : ∀ k, k ≤ B → P k (itr st k S) := by
    intro k
    induction k with
    | zero => intro _; exact h
    | succ k ih => intro hk; exact h1 k _ (by omega) (ih (by omega))
  exact a1 B (Nat.le_refl B)
theorem mnc (x y : Int32) : (if y < x then y else x) = mn x y := by
  unfold mn
  by_cases c1 : y < x
  · rw [if_pos c1, if_neg (by rw [i_lt] at c1 ⊢; omega)]
  · rw [if_neg c1]
    by_cases c2 : x < y
    · rw [if_pos c2]
    · rw [if_neg c2, i_eq]
      rw [i_lt] at c1 c2
      omega
theorem mn_le2 (x y : Int32) : (mn x y).toInt ≤ y.toInt := by rw [mn_toInt]; split <;> omega
theorem mn_le1 (x y : Int32) : (mn x y).toInt ≤ x.toInt := by rw [mn_toInt]; split <;> omega
theorem mn_0 {x y : Int32} (hx : 0 ≤ x.toInt) (hy : 0 ≤ y.toInt) : 0 ≤ (mn x y).toInt := by rw [mn_toInt]; split <;> omega
theorem mn_l {x y : Int32} (h : x.toInt ≤ y.toInt) : mn x y = x := by
  rw [i_eq, mn_toInt]
  split <;> omega
theorem mn_r {x y : Int32} (h : y.toInt ≤ x.toInt) : mn x y = y := by
  rw [i_eq, mn_toInt]
  split <;> omega
theorem mn_0l {y : Int32} (h : 0 ≤ y.toInt) : mn 0 y = 0 := mn_l (by rw [i_0]; exact h)
theorem mn_0r {x : Int32} (h : 0 ≤ x.toInt) : mn x 0 = 0 := mn_r (by rw [i_0]; exact h)
theorem i_le0 {x : Int32} : (0 : Int32) ≤ x ↔ 0 ≤ x.toInt := by rw [i_le, i_0]
theorem isSup_eq (k : Nat) (S : CS) : f_X1_isSupplying k S = (if S.2.2.2 k 4 = 2 ∧ S.2.2.2 k 5 = 0 then 1 else 0, S) := by
  unfold f_X1_isSupplying f_X1_isSupplying_b19 f_X1_isSupplying_b20
  by_cases c1 : S.2.2.2 k 4 = 2
  · by_cases c2 : S.2.2.2 k 5 = 0
    · rw [if_pos c1, if_pos c2, if_pos ⟨c1, c2⟩]
    · rw [if_pos c1, if_neg c2, if_neg (fun z => c2 z.2)]
  · rw [if_neg c1, if_neg (fun z => c1 z.1)]
def pl (S : CS) (k : Nat) : Int32 := if S.2.2.2 k 4 = 2 ∧ S.2.2.2 k 5 = 0 then S.2.2.2 k 0 - S.2.2.2 k 8 else 0
theorem pLeft_eq (k : Nat) (S : CS) : f_X1_powerLeft k S = (pl S k, S) := by
  unfold f_X1_powerLeft f_X1_powerLeft_c1 f_X1_powerLeft_b20 pl
  rw [isSup_eq]
  by_cases c : S.2.2.2 k 4 = 2 ∧ S.2.2.2 k 5 = 0
  · rw [if_pos c, if_pos c, if_neg (show ¬ ((1 : Int32), S).1 = 0 from by show ¬ (1 : Int32) = 0; decide)]
  · rw [if_neg c, if_neg c, if_pos (show ((0 : Int32), S).1 = 0 from rfl)]
theorem demand_h {S : CS} : ∀ (q k : Nat) (v : Int32), k ≤ 10 → 10 < k + q → v = sm (srd (fun i => S.2.1 i 3) (fun i => S.2.1 i 2)) k → f_X3_demand_h13 q k S v = (sm (srd (fun i => S.2.1 i 3) (fun i => S.2.1 i 2)) 10, S) := by
  intro q
  induction q with
  | zero => intro k v h1 h2; omega
  | succ q ih =>
    intro k v h1 h2 e
    rw [f_X3_demand_h13]
    by_cases hk : 10 ≤ k
    · have ek : k = 10 := by omega
      subst ek
      rw [if_pos hk, e]
    · rw [if_neg hk]
      by_cases c : S.2.1 k 3 = 1
      · rw [if_pos c]
        exact ih (k + 1) _ (by omega) (by omega) (by rw [e]; show _ = sm _ k + srd _ _ k; unfold srd; rw [if_pos c])
      · rw [if_neg c]
        exact ih (k + 1) _ (by omega) (by omega) (by rw [e]; show _ = sm _ k + srd _ _ k; unfold srd; rw [if_neg c, i_add0])
theorem demand_eq (S : CS) : f_X3_demand S = (sm (srd (fun i => S.2.1 i 3) (fun i => S.2.1 i 2)) 10, S) := demand_h 11 0 0 (by omega) (by omega) rfl
theorem sGP_h {S : CS} : ∀ (q k : Nat) (v : Int32), k ≤ 3 → 3 < k + q → v = sm (gvs (fun i => S.2.2.2 i 4) (fun i => S.2.2.2 i 5) (fun i => S.2.2.2 i 0)) k → f_X3_sumGeneratorPower_h13 q k S v = (sm (gvs (fun i => S.2.2.2 i 4) (fun i => S.2.2.2 i 5) (fun i => S.2.2.2 i 0)) 3, S) := by
  intro q
  induction q with
  | zero => intro k v h1 h2; omega
  | succ q ih =>
    intro k v h1 h2 e
    rw [f_X3_sumGeneratorPower_h13]
    by_cases hk : 3 ≤ k
    · have ek : k = 3 := by omega
      subst ek
      rw [if_pos hk, e]
    · rw [if_neg hk, isSup_eq]
      unfold f_X3_sumGeneratorPower_c27
      by_cases c : S.2.2.2 k 4 = 2 ∧ S.2.2.2 k 5 = 0
      · rw [if_pos c, if_neg (show ¬ ((1 : Int32), S).1 = 0 from by show ¬ (1 : Int32) = 0; decide)]
        exact ih (k + 1) _ (by omega) (by omega) (by rw [e]; show _ = sm _ k + gvs _ _ _ k; unfold gvs; rw [if_pos c])
      · rw [if_neg c, if_pos (show ((0 : Int32), S).1 = 0 from rfl)]
        exact ih (k + 1) _ (by omega) (by omega) (by rw [e]; show _ = sm _ k + gvs _ _ _ k; unfold gvs; rw [if_neg c, i_add0])
theorem sGP_eq (S : CS) : f_X3_sumGeneratorPower S = (sm (gvs (fun i => S.2.2.2 i 4) (fun i => S.2.2.2 i 5) (fun i => S.2.2.2 i 0)) 3, S) := sGP_h 4 0 0 (by omega) (by omega) rfl
theorem canGive_eq (k : Nat) (S : CS) : f_X0_canGive k S = (mn (S.2.2.1 k 2) (S.2.2.1 k 1), S) := by unfold f_X0_canGive; rw [mnc]
theorem canTake_eq (k : Nat) (S : CS) : f_X0_canTake k S = (mn (S.2.2.1 k 3) (S.2.2.1 k 0 - S.2.2.1 k 1), S) := by unfold f_X0_canTake; rw [mnc]
theorem sBP_h {S : CS} : ∀ (q k : Nat) (v : Int32), k ≤ 3 → 3 < k + q → v = sm (fun k => mn (S.2.2.1 k 2) (S.2.2.1 k 1)) k → f_X3_sumBatteryPower_h13 q k S v = (sm (fun k => mn (S.2.2.1 k 2) (S.2.2.1 k 1)) 3, S) := by
  intro q
  induction q with
  | zero => intro k v h1 h2; omega
  | succ q ih =>
    intro k v h1 h2 e
    rw [f_X3_sumBatteryPower_h13]
    by_cases hk : 3 ≤ k
    · have ek : k = 3 := by omega
      subst ek
      rw [if_pos hk, e]
    · rw [if_neg hk, canGive_eq]
      exact ih (k + 1) _ (by omega) (by omega) (by rw [e]; rfl)
theorem sBP_eq (S : CS) : f_X3_sumBatteryPower S = (sm (fun k => mn (S.2.2.1 k 2) (S.2.2.1 k 1)) 3, S) := sBP_h 4 0 0 (by omega) (by omega) rfl
theorem isShed_2 (k j : Nat) (S : CS) : (f_X2_isShedAheadOf k j S).2 = S := by
  unfold f_X2_isShedAheadOf
  simp only [f_X2_isShedAheadOf_b27, f_X2_isShedAheadOf_b55, f_X2_isShedAheadOf_b72]
  repeat' split
  all_goals rfl
theorem r_sub_sub (x v y : Int32) : x - (v + y) = x - v - y := by grind
theorem r_split (x y a b : Int32) : x + y - (a + b) = (x - a) + (y - b) := by grind
theorem r_4 (g a b : Int32) : g + (a + b) = g + a + b := by grind
theorem r_sub_r (g a b : Int32) : g - (b + a) = g - b - a := by grind
theorem r_cancel (x l : Int32) : x - (x - l) = l := by grind
theorem r_sub0 (x : Int32) : x - 0 = x := by grind
theorem r_0add (x : Int32) : 0 + x = x := by grind
theorem r_addsub (x v : Int32) : x + v - v = x := by grind
def drC (x : Int32) (k : Nat) (s : CS × Int32) : CS × Int32 := (cuG s.1 k 8 (s.1.2.2.2 k 8 + mn (pl s.1 k) (x - s.2)), s.2 + mn (pl s.1 k) (x - s.2))
theorem drC_lp (x : Int32) (S : CS) : f_X3_drawFromGenerators x S = ((itr (drC x) 3 (S, 0)).2, (itr (drC x) 3 (S, 0)).1) := by
  have hH : ∀ (q k : Nat) (s : CS × Int32), f_X3_drawFromGenerators_h14 x (q + 1) k s.1 s.2 = if 3 ≤ k then (s.2, s.1) else f_X3_drawFromGenerators_h14 x q (k + 1) (drC x k s).1 (drC x k s).2 := by
    intro q k s
    rw [f_X3_drawFromGenerators_h14, pLeft_eq]
    unfold f_X3_drawFromGenerators_c29
    simp only [mnc]
    rfl
  have e := lpI (H := fun q k (s : CS × Int32) => f_X3_drawFromGenerators_h14 x q k s.1 s.2) (B := 3) (fin := fun s => (s.2, s.1)) (st := drC x) hH (S, 0)
  unfold f_X3_drawFromGenerators
  exact e
def mvC (k : Nat) (S : CS) : CS := if (cuG S k 8 0).2.2.2 k 4 = 0 then f_X3_beginStart k (cuG S k 8 0) else if (cuG S k 8 0).2.2.2 k 4 = 1 then f_X1_goOnStarting k (cuG S k 8 0) else f_X1_goOnRunning k ((cuG S k 8 0).1 6) (cuG S k 8 0)
theorem mvC_lp (S : CS) : f_X3_moveGenerators S = itr mvC 3 S := by
  refine lpI (H := f_X3_moveGenerators_h10) (B := 3) (fin := fun S => S) (st := mvC) (fun q k S => ?_) S
  rw [f_X3_moveGenerators_h10]
  unfold mvC f_X3_moveGenerators_c59 f_X3_moveGenerators_c67 f_X3_moveGenerators_c79 f_X3_moveGenerators_b82
  by_cases c : 3 ≤ k
  · rw [if_pos c, if_pos c]
  · rw [if_neg c, if_neg c]
    split
    · rfl
    · split <;> rfl
def svC (k : Nat) (s : CS × Int32) : CS × Int32 := if s.1.2.1 k 3 = 1 then (cuL s.1 k 4 (s.1.2.1 k 4 + s.1.2.1 k 2), s.2 + (cuL s.1 k 4 (s.1.2.1 k 4 + s.1.2.1 k 2)).2.1 k 2) else if s.1.2.1 k 3 = 2 then (cuL s.1 k 5 (s.1.2.1 k 5 + 1), s.2) else s
theorem svC_lp (S : CS) : f_X3_serveLoads S = (fun s : CS × Int32 => if s.1.1 6 = 0 then f_X3_serveLoads_c106 s.2 (f_X3_drawFromGenerators s.2 s.1) else cuM s.1 12 (s.1.1 12 + s.2)) (itr svC 10 (S, 0)) := by
  have hH : ∀ (q k : Nat) (s : CS × Int32), f_X3_serveLoads_h13 (q + 1) k s.1 s.2 = if 10 ≤ k then (if s.1.1 6 = 0 then f_X3_serveLoads_c106 s.2 (f_X3_drawFromGenerators s.2 s.1) else cuM s.1 12 (s.1.1 12 + s.2)) else f_X3_serveLoads_h13 q (k + 1) (svC k s).1 (svC k s).2 := by
    intro q k s
    rw [f_X3_serveLoads_h13]
    unfold f_X3_serveLoads_b80 svC
    by_cases c : 10 ≤ k
    · rw [if_pos c, if_pos c]
    · rw [if_neg c, if_neg c]
      split
      · rfl
      · split <;> rfl
  have e := lpI (H := fun q k (s : CS × Int32) => f_X3_serveLoads_h13 q k s.1 s.2) (B := 10) (fin := fun s : CS × Int32 => if s.1.1 6 = 0 then f_X3_serveLoads_c106 s.2 (f_X3_drawFromGenerators s.2 s.1) else cuM s.1 12 (s.1.1 12 + s.2)) (st := svC) hH (S, 0)
  unfold f_X3_serveLoads
  exact e
def dbC (x : Int32) (k : Nat) (s : CS × Int32) : CS × Int32 := (cuB s.1 k 1 (s.1.2.2.1 k 1 - mn (mn (s.1.2.2.1 k 2) (s.1.2.2.1 k 1)) (x - s.2)), s.2 + mn (mn (s.1.2.2.1 k 2) (s.1.2.2.1 k 1)) (x - s.2))
theorem dbC_lp (x : Int32) (S : CS) : f_X3_drawFromBatteries x S = ((itr (dbC x) 3 (S, 0)).2, (itr (dbC x) 3 (S, 0)).1) := by
  have hH : ∀ (q k : Nat) (s : CS × Int32), f_X3_drawFromBatteries_h14 x (q + 1) k s.1 s.2 = if 3 ≤ k then (s.2, s.1) else f_X3_drawFromBatteries_h14 x q (k + 1) (dbC x k s).1 (dbC x k s).2 := by
    intro q k s
    rw [f_X3_drawFromBatteries_h14, canGive_eq]
    unfold f_X3_drawFromBatteries_c29
    simp only [mnc]
    rfl
  have e := lpI (H := fun q k (s : CS × Int32) => f_X3_drawFromBatteries_h14 x q k s.1 s.2) (B := 3) (fin := fun s => (s.2, s.1)) (st := dbC x) hH (S, 0)
  unfold f_X3_drawFromBatteries
  exact e
def fiC (x : Int32) (k : Nat) (s : CS × Int32) : CS × Int32 := (cuB s.1 k 1 (s.1.2.2.1 k 1 + mn (mn (s.1.2.2.1 k 3) (s.1.2.2.1 k 0 - s.1.2.2.1 k 1)) (x - s.2)), s.2 + mn (mn (s.1.2.2.1 k 3) (s.1.2.2.1 k 0 - s.1.2.2.1 k 1)) (x - s.2))
theorem fiC_lp (x : Int32) (S : CS) : f_X3_fillBatteries x S = ((itr (fiC x) 3 (S, 0)).2, (itr (fiC x) 3 (S, 0)).1) := by
  have hH : ∀ (q k : Nat) (s : CS × Int32), f_X3_fillBatteries_h14 x (q + 1) k s.1 s.2 = if 3 ≤ k then (s.2, s.1) else f_X3_fillBatteries_h14 x q (k + 1) (fiC x k s).1 (fiC x k s).2 := by
    intro q k s
    rw [f_X3_fillBatteries_h14, canTake_eq]
    unfold f_X3_fillBatteries_c29
    simp only [mnc]
    rfl
  have e := lpI (H := fun q k (s : CS × Int32) => f_X3_fillBatteries_h14 x q k s.1 s.2) (B := 3) (fin := fun s => (s.2, s.1)) (st := fiC x) hH (S, 0)
  unfold f_X3_fillBatteries
  exact e
theorem burn_lp (S : CS) (v : Int32) : f_X3_passOneMinute_h114 4 0 S v = f_X3_passOneMinute_h148 4 0 (itr f_X1_burnFuel 3 S) v := by
  refine lpI (H := fun q k s => f_X3_passOneMinute_h114 q k s v) (B := 3) (fin := fun s => f_X3_passOneMinute_h148 4 0 s v) (st := f_X1_burnFuel) (fun q k s => ?_) S
  rw [f_X3_passOneMinute_h114]
  rfl
theorem wear_lp (S : CS) (v : Int32) : f_X3_passOneMinute_h148 4 0 S v = (v, itr f_X0_wearOut 3 S) := by
  refine lpI (H := fun q k s => f_X3_passOneMinute_h148 q k s v) (B := 3) (fin := fun s => (v, s)) (st := f_X0_wearOut) (fun q k s => ?_) S
  rw [f_X3_passOneMinute_h148]
  rfl
def ahC (k : Nat) (S : CS) : CS := cuB S k 4 (S.2.2.1 k 1)
theorem ah_1 {S : CS} : (itr ahC 3 S).1 = S.1 := itP (P := fun _ (s : CS) => s.1 = S.1) (st := ahC) (B := 3) (S := S) (fun k s _ hs => hs) rfl
theorem ahC_lp (S : CS) : f_X3_passOneMinute S = f_X3_passOneMinute_b64 (cuM (itr ahC 3 S) 7 (S.1 7 + 1)) (if S.1 6 = 0 then S.1 8 + 1 else 0) := by
  have e := lpI (H := f_X3_passOneMinute_h10) (B := 3) (fin := fun S10 => if ((cuM S10 7 ((S10.1 7) + 1)).1 6) = 0 then (f_X3_passOneMinute_b64 (cuM S10 7 ((S10.1 7) + 1)) (((cuM S10 7 ((S10.1 7) + 1)).1 8) + 1)) else (f_X3_passOneMinute_b64 (cuM S10 7 ((S10.1 7) + 1)) 0)) (st := ahC) (fun q k s => by rw [f_X3_passOneMinute_h10]; rfl) S
  have w6 : (cuM (itr ahC 3 S) 7 (S.1 7 + 1)).1 6 = S.1 6 := by rw [rdM, if_neg (by omega), ah_1]
  have w8 : (cuM (itr ahC 3 S) 7 (S.1 7 + 1)).1 8 = S.1 8 := by rw [rdM, if_neg (by omega), ah_1]
  unfold f_X3_passOneMinute
  rw [e, ah_1, w6, w8]
  by_cases c : S.1 6 = 0
  · rw [if_pos c, if_pos c]
  · rw [if_neg c, if_neg c]
