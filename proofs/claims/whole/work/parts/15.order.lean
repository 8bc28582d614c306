/-! ===== the order of the loads: by rank, power and number; who is first; counts and sums ===== -/
def cnt (P : Nat → Bool) : Nat → Nat
  | 0 => 0
  | m + 1 => cnt P m + if P m = true then 1 else 0
theorem cnt_le (P : Nat → Bool) (m : Nat) : cnt P m ≤ m := by
  induction m with
  | zero => exact Nat.le_refl 0
  | succ m ih => unfold cnt; split <;> omega
theorem cnt_zero {P : Nat → Bool} {m : Nat} : cnt P m = 0 ↔ ∀ j, j < m → P j = false := by
  induction m with
  | zero => exact ⟨fun _ j h => absurd h (Nat.not_lt_zero j), fun _ => rfl⟩
  | succ m ih =>
    unfold cnt
    constructor
    · intro h j hj
      by_cases hm : P m = true
      · rw [if_pos hm] at h; omega
      · rw [if_neg hm] at h
        rcases Nat.lt_or_ge j m with q | q
        · exact ih.mp (by omega) j q
        · have e : j = m := by omega
          subst e
          simpa using hm
    · intro h
      rw [ih.mpr (fun j hj => h j (by omega)), if_neg (by rw [h m (by omega)]; decide)]
theorem cnt_congr {P P' : Nat → Bool} {m : Nat} (h : ∀ j, j < m → P j = P' j) : cnt P m = cnt P' m := by
  induction m with
  | zero => rfl
  | succ m ih => unfold cnt; rw [ih (fun j hj => h j (by omega)), h m (by omega)]
theorem cnt_mono {P P' : Nat → Bool} {m : Nat} (h : ∀ j, j < m → P j = true → P' j = true) : cnt P m ≤ cnt P' m := by
  induction m with
  | zero => exact Nat.le_refl 0
  | succ m ih =>
    unfold cnt
    have h1 := ih (fun j hj => h j (by omega))
    have h2 := h m (by omega)
    by_cases q : P m = true
    · rw [if_pos q, if_pos (h2 q)]; omega
    · rw [if_neg q]; split <;> omega
theorem cnt_lt {P P' : Nat → Bool} {m k : Nat} (h : ∀ j, j < m → P j = true → P' j = true) (hk : k < m) (h0 : P k = false) (h1 : P' k = true) : cnt P m < cnt P' m := by
  induction m with
  | zero => omega
  | succ m ih =>
    unfold cnt
    rcases Nat.lt_or_ge k m with q | q
    · have h3 := ih (fun j hj => h j (by omega)) q
      have h2 := h m (by omega)
      by_cases z : P m = true
      · rw [if_pos z, if_pos (h2 z)]; omega
      · rw [if_neg z]; split <;> omega
    · have e : k = m := by omega
      subst e
      have h3 := cnt_mono (m := k) (fun j hj => h j (by omega))
      rw [h1, h0, if_pos rfl, if_neg (by decide)]
      omega
/-- from a row's end: a step more -/
theorem cnt_ext {P P' : Nat → Bool} {m m' : Nat} (hm : m ≤ m') (h : ∀ j, j < m → P j = P' j) (h2 : ∀ j, m ≤ j → j < m' → P' j = false) : cnt P m = cnt P' m' := by
  induction m' with
  | zero =>
    have e : m = 0 := by omega
    subst e
    rfl
  | succ m' ih =>
    rcases Nat.lt_or_ge m (m' + 1) with q | q
    · have h3 := ih (by omega) (fun j h1 h3 => h2 j h1 (by omega))
      show _ = cnt P' m' + _
      rw [h2 m' (by omega) (by omega), if_neg (by decide)]
      exact h3
    · have e : m = m' + 1 := by omega
      subst e
      exact cnt_congr h
/-- sums -/
def sm (g : Nat → Int32) : Nat → Int32
  | 0 => 0
  | m + 1 => sm g m + g m
theorem sm_congr {g g' : Nat → Int32} {m : Nat} (h : ∀ j, j < m → g j = g' j) : sm g m = sm g' m := by
  induction m with
  | zero => rfl
  | succ m ih => unfold sm; rw [ih (fun j hj => h j (by omega)), h m (by omega)]
theorem i_add0 (x : Int32) : x + 0 = x := Int32.add_zero x
theorem sm_ext {g g' : Nat → Int32} {m m' : Nat} (hm : m ≤ m') (h : ∀ j, j < m → g j = g' j) (h2 : ∀ j, m ≤ j → j < m' → g' j = 0) : sm g m = sm g' m' := by
  induction m' with
  | zero =>
    have e : m = 0 := by omega
    subst e
    rfl
  | succ m' ih =>
    rcases Nat.lt_or_ge m (m' + 1) with q | q
    · have h3 := ih (by omega) (fun j h1 h3 => h2 j h1 (by omega))
      show _ = sm g' m' + _
      rw [h2 m' (by omega) (by omega), i_add0]
      exact h3
    · have e : m = m' + 1 := by omega
      subst e
      exact sm_congr h
theorem sm_zero {g : Nat → Int32} {m : Nat} (h : ∀ j, j < m → g j = 0) : sm g m = 0 := by
  induction m with
  | zero => rfl
  | succ m ih => unfold sm; rw [ih (fun j hj => h j (by omega)), h m (by omega)]; rfl
/-- the keys: one number for rank, power and number -/
def key (rk pw : Nat → Int32) (k : Nat) : Int := (rk k).toInt * 100000 + (pw k).toInt * 100 + k
def rpOk (rk pw : Nat → Int32) (m : Nat) : Prop := ∀ k, k < m → (1 ≤ (rk k).toInt ∧ (rk k).toInt ≤ 5) ∧ (1 ≤ (pw k).toInt ∧ (pw k).toInt ≤ 500)
theorem i_sub {x y : Int32} (hx : -1000000000 ≤ x.toInt ∧ x.toInt ≤ 1000000000) (hy : -1000000000 ≤ y.toInt ∧ y.toInt ≤ 1000000000) : (x - y).toInt = x.toInt - y.toInt := by
  rw [Int32.toInt_sub]
  exact Int.bmod_eq_of_le (by omega) (by omega)
theorem i_add {x y : Int32} (h : -2000000000 ≤ x.toInt + y.toInt ∧ x.toInt + y.toInt ≤ 2000000000) : (x + y).toInt = x.toInt + y.toInt := by
  rw [Int32.toInt_add]
  exact Int.bmod_eq_of_le (by omega) (by omega)
theorem i_eq (a b : Int32) : a = b ↔ a.toInt = b.toInt := ⟨fun h => by rw [h], fun h => Int32.toInt_inj.mp h⟩
theorem i_0 : (0 : Int32).toInt = 0 := by decide
theorem i_1 : (1 : Int32).toInt = 1 := by decide
theorem i_2 : (2 : Int32).toInt = 2 := by decide
theorem isLess_eq {n : Nat × Nat × Nat} {j k : Nat} {S : MS} (h : rpOk (S.2 1) (S.2 2) n.1) (hn : n.1 ≤ 10) (hj : j < n.1) (hk : k < n.1) : f_X4_isLess n j k S = (if key (S.2 1) (S.2 2) j < key (S.2 1) (S.2 2) k then 1 else 0, S) := by
  obtain ⟨⟨a1, a2⟩, a3, a4⟩ := h j hj
  obtain ⟨⟨b1, b2⟩, b3, b4⟩ := h k hk
  have e1 := i_sub (x := S.2 1 j) (y := S.2 1 k) (by omega) (by omega)
  have e2 := i_sub (x := S.2 2 j) (y := S.2 2 k) (by omega) (by omega)
  unfold f_X4_isLess
  simp only [f_X4_isLess_b73, i_eq, i_le, e1, e2, i_0]
  unfold key
  split
  · split
    · split
      · rw [if_neg (by omega)]
      · rw [if_pos (by omega)]
    · split
      · rw [if_neg (by omega)]
      · rw [if_pos (by omega)]
  · split
    · rw [if_neg (by omega)]
    · rw [if_pos (by omega)]
/-- which of the loads of state st come ahead of k: those with a lesser key (rising) or with a greater one -/
def ahd (rk pw st : Nat → Int32) (x : Int32) (up : Bool) (k j : Nat) : Bool := decide (st j = x) && decide (j ≠ k) && (if up then decide (key rk pw j < key rk pw k) else decide (key rk pw k < key rk pw j))
/-- the last of the loads below m that is of state x and has so many ahead; -1: none -/
def sel (st : Nat → Int32) (x pl : Int32) (c : Nat → Nat) : Nat → Int32
  | 0 => -1
  | m + 1 => if st m = x ∧ nI (c m) = pl then nI m else sel st x pl c m
theorem sel_congr {st : Nat → Int32} {x pl : Int32} {c c' : Nat → Nat} : ∀ {m : Nat}, (∀ k, k < m → c k = c' k) → sel st x pl c m = sel st x pl c' m := by
  intro m
  induction m with
  | zero => intro _; rfl
  | succ m ih => intro h; unfold sel; rw [h m (by omega), ih (fun k hk => h k (by omega))]
theorem isLess_2 (n : Nat × Nat × Nat) (j k : Nat) (S : MS) : (f_X4_isLess n j k S).2 = S := by
  unfold f_X4_isLess
  simp only [f_X4_isLess_b73]
  repeat' split
  all_goals rfl
def ahM (n : Nat × Nat × Nat) (S : MS) (x x3 : Int32) (k j : Nat) : Bool := decide (S.2 3 j = x) && decide (j ≠ k) && decide ((if x3 = 0 then f_X4_isLess n k j S else f_X4_isLess n j k S).1 ≠ 0)
theorem inOrder_h21 {n : Nat × Nat × Nat} {x1 x2 x3 : Int32} {K : Nat → MS → Int32 → Int32 × MS} {k : Nat} {S : MS} {v4 : Int32} :
    ∀ (q j : Nat) (v6 : Int32), j ≤ n.1 → n.1 < j + q → v6 = nI (cnt (ahM n S x1 x3 k) j) →
      f_X4_inOrder_h21 n x1 x2 x3 K k q j S v4 v6 = K (k + 1) S (if S.2 3 k = x1 ∧ nI (cnt (ahM n S x1 x3 k) n.1) = x2 then nI k else v4) := by
  intro q
  induction q with
  | zero => intro j v6 h1 h2; omega
  | succ q ih =>
    intro j v6 h1 h2 e
    rw [f_X4_inOrder_h21]
    by_cases hj : n.1 ≤ j
    · have ej : j = n.1 := by omega
      subst ej
      rw [if_pos hj, e]
      by_cases c1 : S.2 3 k = x1
      · rw [if_pos c1]
        by_cases c2 : nI (cnt (ahM n S x1 x3 k) n.1) = x2
        · rw [if_pos c2, if_pos ⟨c1, c2⟩]; rfl
        · rw [if_neg c2, if_neg (fun z => c2 z.2)]; rfl
      · rw [if_neg c1, if_neg (fun z => c1 z.1)]; rfl
    · rw [if_neg hj]
      have step : ∀ b : Bool, b = ahM n S x1 x3 k j → f_X4_inOrder_h21 n x1 x2 x3 K k q (j + 1) S v4 (v6 + if b = true then 1 else 0) = K (k + 1) S (if S.2 3 k = x1 ∧ nI (cnt (ahM n S x1 x3 k) n.1) = x2 then nI k else v4) := by
        intro b hb
        refine ih (j + 1) _ (by omega) (by omega) ?_
        rw [e]
        show _ = nI (cnt _ j + _)
        rw [← hb]
        cases b
        · rw [if_neg (by decide), if_neg (by decide)]; exact i_add0 _
        · rw [if_pos rfl, if_pos rfl]; exact nI_1 _
      have fin : ∀ (p : Int32 × MS), p.2 = S → (ahM n S x1 x3 k j = (decide (S.2 3 j = x1) && decide (j ≠ k) && decide (p.1 ≠ 0))) →
          f_X4_inOrder_b53 n x1 x2 x3 K (f_X4_inOrder_h21 n x1 x2 x3 K k q) k j p.2 v4 v6 p.1 = K (k + 1) S (if S.2 3 k = x1 ∧ nI (cnt (ahM n S x1 x3 k) n.1) = x2 then nI k else v4) := by
        intro p hp hb
        rw [hp, f_X4_inOrder_b53]
        by_cases c1 : S.2 3 j = x1
        · rw [if_pos c1]
          by_cases c2 : j = k
          · rw [if_pos c2]
            exact step false (by rw [hb, c2]; simp)
          · rw [if_neg c2]
            by_cases c3 : p.1 = 0
            · rw [if_pos c3]
              exact step false (by rw [hb]; simp [c3])
            · rw [if_neg c3]
              exact step true (by rw [hb]; simp [c1, c2, c3])
        · rw [if_neg c1]
          exact step false (by rw [hb]; simp [c1])
      by_cases c : x3 = 0
      · rw [if_pos c]
        exact fin (f_X4_isLess n k j S) (isLess_2 _ _ _ _) (by unfold ahM; rw [if_pos c])
      · rw [if_neg c]
        exact fin (f_X4_isLess n j k S) (isLess_2 _ _ _ _) (by unfold ahM; rw [if_neg c])
theorem inOrder_h6 {n : Nat × Nat × Nat} {x1 x2 x3 : Int32} {S : MS} :
    ∀ (q k : Nat) (v4 : Int32), k ≤ n.1 → n.1 < k + q → v4 = sel (S.2 3) x1 x2 (fun k => cnt (ahM n S x1 x3 k) n.1) k → f_X4_inOrder_h6 n x1 x2 x3 q k S v4 = (sel (S.2 3) x1 x2 (fun k => cnt (ahM n S x1 x3 k) n.1) n.1, S) := by
  intro q
  induction q with
  | zero => intro k v4 h1 h2; omega
  | succ q ih =>
    intro k v4 h1 h2 e
    rw [f_X4_inOrder_h6]
    by_cases hk : n.1 ≤ k
    · have ek : k = n.1 := by omega
      subst ek
      rw [if_pos hk, e]
    · rw [if_neg hk, inOrder_h21 (n.1 + 1) 0 0 (Nat.zero_le _) (by omega) rfl]
      refine ih (k + 1) _ (by omega) (by omega) ?_
      rw [e]
      rfl
theorem inOrder_gen (n : Nat × Nat × Nat) (x1 x2 x3 : Int32) (S : MS) : f_X4_inOrder n x1 x2 x3 S = (sel (S.2 3) x1 x2 (fun k => cnt (ahM n S x1 x3 k) n.1) n.1, S) :=
  inOrder_h6 (n.1 + 1) 0 (-1) (Nat.zero_le _) (by omega) rfl
theorem ahM_eq {n : Nat × Nat × Nat} {S : MS} {x x3 : Int32} {k j : Nat} (h : rpOk (S.2 1) (S.2 2) n.1) (hn : n.1 ≤ 10) (hk : k < n.1) (hj : j < n.1) : ahM n S x x3 k j = ahd (S.2 1) (S.2 2) (S.2 3) x (decide (x3 ≠ 0)) k j := by
  unfold ahM ahd
  by_cases c : x3 = 0
  · rw [if_pos c, isLess_eq h hn hk hj]
    by_cases q : key (S.2 1) (S.2 2) k < key (S.2 1) (S.2 2) j <;> simp [c, q]
  · rw [if_neg c, isLess_eq h hn hj hk]
    by_cases q : key (S.2 1) (S.2 2) j < key (S.2 1) (S.2 2) k <;> simp [c, q]
theorem inOrder_eq {n : Nat × Nat × Nat} {x1 x2 x3 : Int32} {S : MS} (h : rpOk (S.2 1) (S.2 2) n.1) (hn : n.1 ≤ 10) : f_X4_inOrder n x1 x2 x3 S = (sel (S.2 3) x1 x2 (fun k => cnt (ahd (S.2 1) (S.2 2) (S.2 3) x1 (decide (x3 ≠ 0)) k) n.1) n.1, S) := by
  rw [inOrder_gen, sel_congr (fun k hk => cnt_congr (fun j hj => ahM_eq h hn hk hj))]
theorem sel_spec {st : Nat → Int32} {x pl : Int32} {c : Nat → Nat} : ∀ m, sel st x pl c m = -1 ∨ ∃ k, k < m ∧ sel st x pl c m = nI k ∧ st k = x ∧ nI (c k) = pl := by
  intro m
  induction m with
  | zero => exact Or.inl rfl
  | succ m ih =>
    unfold sel
    by_cases z : st m = x ∧ nI (c m) = pl
    · rw [if_pos z]
      exact Or.inr ⟨m, by omega, rfl, z⟩
    · rw [if_neg z]
      rcases ih with h | ⟨k, h1, h2⟩
      · exact Or.inl h
      · exact Or.inr ⟨k, by omega, h2⟩
/-- one that fits is found -/
theorem sel_some {st : Nat → Int32} {x pl : Int32} {c : Nat → Nat} : ∀ m k, k < m → st k = x → nI (c k) = pl → ∃ j, j < m ∧ sel st x pl c m = nI j ∧ st j = x ∧ nI (c j) = pl := by
  intro m
  induction m with
  | zero => intro k h; omega
  | succ m ih =>
    intro k hk h1 h2
    unfold sel
    by_cases z : st m = x ∧ nI (c m) = pl
    · rw [if_pos z]
      exact ⟨m, by omega, rfl, z⟩
    · rw [if_neg z]
      have hkm : k < m := by
        rcases Nat.lt_or_ge k m with q | q
        · exact q
        · have e : k = m := by omega
          subst e
          exact absurd ⟨h1, h2⟩ z
      obtain ⟨j, h3, h4⟩ := ih k hkm h1 h2
      exact ⟨j, by omega, h4⟩
theorem inOrder_in {n : Nat × Nat × Nat} {x1 x2 x3 : Int32} {S : MS} {p : Int32 × MS} (hn : n.1 ≤ 10 ∧ n.2.1 ≤ 3 ∧ n.2.2 ≤ 3) (e : p = f_X4_inOrder n x1 x2 x3 S) (h : ¬ p.1 = -1) : vp_in p.1 10 := by
  rw [inOrder_gen] at e
  rw [e] at h ⊢
  rcases sel_spec (st := S.2 3) (x := x1) (pl := x2) (c := fun k => cnt (ahM n S x1 x3 k) n.1) n.1 with q | ⟨k, h1, h2, -⟩
  · exact absurd q h
  · show vp_in (sel _ _ _ _ _) 10
    rw [h2]
    exact vp_in_nI (by omega) (by omega)
/-- among the loads of a state, one has the greatest key, and one the least -/
theorem key_max (rk pw : Nat → Int32) {st : Nat → Int32} {x : Int32} : ∀ m k, k < m → st k = x → ∃ j, j < m ∧ st j = x ∧ ∀ i, i < m → st i = x → key rk pw i ≤ key rk pw j := by
  intro m
  induction m with
  | zero => intro k h; omega
  | succ m ih =>
    intro k hk h1
    by_cases c : ∃ k, k < m ∧ st k = x
    · obtain ⟨k2, h2, h3⟩ := c
      obtain ⟨j, hj, h4, h5⟩ := ih k2 h2 h3
      by_cases c2 : st m = x ∧ key rk pw j < key rk pw m
      · refine ⟨m, by omega, c2.1, fun i hi hx => ?_⟩
        rcases Nat.lt_or_ge i m with q | q
        · have := h5 i q hx; omega
        · have e : i = m := by omega
          subst e; omega
      · refine ⟨j, by omega, h4, fun i hi hx => ?_⟩
        rcases Nat.lt_or_ge i m with q | q
        · exact h5 i q hx
        · have e : i = m := by omega
          subst e
          rcases Classical.em (key rk pw j < key rk pw i) with z | z
          · exact absurd ⟨hx, z⟩ c2
          · omega
    · have hkm : k = m := by
        rcases Nat.lt_or_ge k m with q | q
        · exact absurd ⟨k, q, h1⟩ c
        · omega
      subst hkm
      refine ⟨k, by omega, h1, fun i hi hx => ?_⟩
      rcases Nat.lt_or_ge i k with q | q
      · exact absurd ⟨i, q, hx⟩ c
      · have e : i = k := by omega
        subst e; omega
theorem key_min (rk pw : Nat → Int32) {st : Nat → Int32} {x : Int32} : ∀ m k, k < m → st k = x → ∃ j, j < m ∧ st j = x ∧ ∀ i, i < m → st i = x → key rk pw j ≤ key rk pw i := by
  intro m
  induction m with
  | zero => intro k h; omega
  | succ m ih =>
    intro k hk h1
    by_cases c : ∃ k, k < m ∧ st k = x
    · obtain ⟨k2, h2, h3⟩ := c
      obtain ⟨j, hj, h4, h5⟩ := ih k2 h2 h3
      by_cases c2 : st m = x ∧ key rk pw m < key rk pw j
      · refine ⟨m, by omega, c2.1, fun i hi hx => ?_⟩
        rcases Nat.lt_or_ge i m with q | q
        · have := h5 i q hx; omega
        · have e : i = m := by omega
          subst e; omega
      · refine ⟨j, by omega, h4, fun i hi hx => ?_⟩
        rcases Nat.lt_or_ge i m with q | q
        · exact h5 i q hx
        · have e : i = m := by omega
          subst e
          rcases Classical.em (key rk pw i < key rk pw j) with z | z
          · exact absurd ⟨hx, z⟩ c2
          · omega
    · have hkm : k = m := by
        rcases Nat.lt_or_ge k m with q | q
        · exact absurd ⟨k, q, h1⟩ c
        · omega
      subst hkm
      refine ⟨k, by omega, h1, fun i hi hx => ?_⟩
      rcases Nat.lt_or_ge i k with q | q
      · exact absurd ⟨i, q, hx⟩ c
      · have e : i = k := by omega
        subst e; omega
/-- keys are apart -/
theorem key_inj {rk pw : Nat → Int32} {m j k : Nat} (h : rpOk rk pw m) (hm : m ≤ 10) (hj : j < m) (hk : k < m) (e : key rk pw j = key rk pw k) : j = k := by
  obtain ⟨-, a3, a4⟩ := h j hj
  obtain ⟨-, b3, b4⟩ := h k hk
  unfold key at e
  omega
/-- the first one in its order has nobody ahead -/
theorem cnt_ahd_0 {rk pw st : Nat → Int32} {x : Int32} {up : Bool} {N k : Nat} : cnt (ahd rk pw st x up k) N = 0 ↔ ∀ j, j < N → st j = x → j ≠ k → (if up then ¬ key rk pw j < key rk pw k else ¬ key rk pw k < key rk pw j) := by
  rw [cnt_zero]
  constructor
  · intro h j hj h1 h2
    have h3 := h j hj
    unfold ahd at h3
    cases up <;> simpa [h1, h2] using h3
  · intro h j hj
    unfold ahd
    by_cases h1 : st j = x
    · by_cases h2 : j = k
      · simp [h2]
      · have h3 := h j hj h1 h2
        cases up <;> simpa [h1, h2] using h3
    · simp [h1]
