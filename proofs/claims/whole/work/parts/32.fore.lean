/-! ===== the battery minutes; the passing of minutes ===== -/
theorem lpB {σ ρ : Type} {H : Nat → Nat → σ → ρ} {B : Nat} {fin : σ → ρ} {st : Nat → σ → σ} (hH : ∀ q k S, k ≤ B → H (q + 1) k S = if B ≤ k then fin S else H q (k + 1) (st k S)) (S : σ) : H (B + 1) 0 S = fin (itr st B S) := by
  have main : ∀ q k, k ≤ B → B < k + q → H q k (itr st k S) = fin (itr st B S) := by
    intro q
    induction q with
    | zero => intro k h1 h2; omega
    | succ q ih =>
      intro k h1 h2
      rw [hH q k _ h1]
      by_cases c : B ≤ k
      · have e : k = B := by omega
        rw [if_pos c, e]
      · rw [if_neg c]
        exact ih (k + 1) (by omega) (by omega)
  exact main (B + 1) 0 (Nat.zero_le _) (by omega)
section FO
variable {n : Nat × Nat × Nat} {d : Nat → Int32} {S : CS} {M : MS}
def fcC (k : Nat) (S : CS) : CS := cuB S k 5 (S.2.2.1 k 1)
def trM (k : Nat) (M : MS) : MS := muA M 11 k (M.2 7 k)
def foC (k : Nat) (s : CS × Int32) : CS × Int32 := (cuB s.1 k 5 (s.1.2.2.1 k 5 - mn (mn (s.1.2.2.1 k 2) (s.1.2.2.1 k 5)) s.2), s.2 - mn (mn (s.1.2.2.1 k 2) (s.1.2.2.1 k 5)) s.2)
def toM (k : Nat) (s : MS × Int32) : MS × Int32 := (muA s.1 11 k (s.1.2 11 k - mn (mn (s.1.2 8 k) (s.1.2 11 k)) s.2), s.2 - mn (mn (s.1.2 8 k) (s.1.2 11 k)) s.2)
theorem foC_lp (x : Int32) (S : CS) : f_X3_forecastOneMinute_h72 x 4 0 S x = (1, (itr foC 3 (S, x)).1) := by
  have hH : ∀ (q k : Nat) (s : CS × Int32), f_X3_forecastOneMinute_h72 x (q + 1) k s.1 s.2 = if 3 ≤ k then ((1 : Int32), s.1) else f_X3_forecastOneMinute_h72 x q (k + 1) (foC k s).1 (foC k s).2 := by
    intro q k s
    rw [f_X3_forecastOneMinute_h72]
    simp only [mnc]
    rfl
  exact lpI (H := fun q k (s : CS × Int32) => f_X3_forecastOneMinute_h72 x q k s.1 s.2) (B := 3) (fin := fun s => ((1 : Int32), s.1)) (st := foC) hH (S, x)
theorem foS_h {x : Int32} {S : CS} : ∀ (q k : Nat) (v : Int32), k ≤ 3 → 3 < k + q → v = sm (fun k => mn (S.2.2.1 k 2) (S.2.2.1 k 5)) k → f_X3_forecastOneMinute_h14 x q k S v = (if x ≤ sm (fun k => mn (S.2.2.1 k 2) (S.2.2.1 k 5)) 3 then (1, (itr foC 3 (S, x)).1) else (0, S)) := by
  intro q
  induction q with
  | zero => intro k v h1 h2; omega
  | succ q ih =>
    intro k v h1 h2 e
    rw [f_X3_forecastOneMinute_h14]
    by_cases hk : 3 ≤ k
    · have ek : k = 3 := by omega
      subst ek
      rw [if_pos hk, ← e, foC_lp]
    · rw [if_neg hk, mnc]
      exact ih (k + 1) _ (by omega) (by omega) (by rw [e]; rfl)
theorem fo_eq (x : Int32) (S : CS) : f_X3_forecastOneMinute x S = (if x ≤ sm (fun k => mn (S.2.2.1 k 2) (S.2.2.1 k 5)) 3 then (1, (itr foC 3 (S, x)).1) else (0, S)) := foS_h 4 0 0 (by omega) (by omega) rfl
theorem fcC_lp (S : CS) (v : Int32) : f_X3_batteryMinutes_h16 4 0 S v = f_X3_batteryMinutes_h46 1001 0 (itr fcC 3 S) v := by
  have hH : ∀ (q k : Nat) (s : CS), f_X3_batteryMinutes_h16 (q + 1) k s v = if 3 ≤ k then f_X3_batteryMinutes_h46 1001 0 s v else f_X3_batteryMinutes_h16 q (k + 1) (fcC k s) v := by
    intro q k s
    rw [f_X3_batteryMinutes_h16]
    rfl
  exact lpI (H := fun q k (s : CS) => f_X3_batteryMinutes_h16 q k s v) (B := 3) (fin := fun s => f_X3_batteryMinutes_h46 1001 0 s v) (st := fcC) hH S
theorem trM_lp (n : Nat × Nat × Nat) (M : MS) (v : Int32) : f_X4_batteryMinutes_h20 n (n.2.1 + 1) 0 M v = f_X4_batteryMinutes_h48 n (1000 + 1) 0 (itr trM n.2.1 M) v := by
  have hH : ∀ (q k : Nat) (s : MS), f_X4_batteryMinutes_h20 n (q + 1) k s v = if n.2.1 ≤ k then f_X4_batteryMinutes_h48 n (1000 + 1) 0 s v else f_X4_batteryMinutes_h20 n q (k + 1) (trM k s) v := by
    intro q k s
    rw [f_X4_batteryMinutes_h20]
    rfl
  exact lpI (H := fun q k (s : MS) => f_X4_batteryMinutes_h20 n q k s v) (B := n.2.1) (fin := fun s => f_X4_batteryMinutes_h48 n (1000 + 1) 0 s v) (st := trM) hH M
theorem toM_lp (n : Nat × Nat × Nat) (K : Nat → MS → Int32 → Int32 × MS) (k0 : Nat) (M : MS) (v w : Int32) : f_X4_batteryMinutes_h72 n K k0 (n.2.1 + 1) 0 M v w = K (k0 + 1) (itr toM n.2.1 (M, w)).1 v := by
  have hH : ∀ (q k : Nat) (s : MS × Int32), f_X4_batteryMinutes_h72 n K k0 (q + 1) k s.1 v s.2 = if n.2.1 ≤ k then K (k0 + 1) s.1 v else f_X4_batteryMinutes_h72 n K k0 q (k + 1) (toM k s).1 v (toM k s).2 := by
    intro q k s
    rw [f_X4_batteryMinutes_h72, lesser_mn]
    unfold f_X4_batteryMinutes_c95
    rw [lesser_mn]
    rfl
  exact lpI (H := fun q k (s : MS × Int32) => f_X4_batteryMinutes_h72 n K k0 q k s.1 v s.2) (B := n.2.1) (fin := fun s => K (k0 + 1) s.1 v) (st := toM) hH (M, w)
/-- forecasts beside trials -/
def TT (n : Nat × Nat × Nat) (d : Nat → Int32) (S : CS) (M : MS) : Prop := Iv n d S M ∧ ∀ i, i < 3 → S.2.2.1 i 5 = M.2 11 i ∧ 0 ≤ (M.2 11 i).toInt ∧ (M.2 11 i).toInt ≤ 20000
theorem tt_0 (h : Iv n d S M) : TT n d (itr fcC 3 S) (itr trM n.2.1 M) := by
  have main : Iv n d (itr fcC 3 S) (itr trM n.2.1 M) ∧ ∀ i, i < 3 → i < 3 → (itr fcC 3 S).2.2.1 i 5 = (itr trM n.2.1 M).2 11 i ∧ 0 ≤ ((itr trM n.2.1 M).2 11 i).toInt ∧ ((itr trM n.2.1 M).2 11 i).toInt ≤ 20000 := by
    refine itS (P := fun (k : Nat) (s : CS) (t : MS) => Iv n d s t ∧ ∀ i, i < 3 → i < k → s.2.2.1 i 5 = t.2 11 i ∧ 0 ≤ (t.2 11 i).toInt ∧ (t.2 11 i).toInt ≤ 20000) h.ok.2.1 (fun k s t hk hh => ?_) (fun k s t hk _ hh => ?_) ⟨h, fun i _ hi => absurd hi (Nat.not_lt_zero i)⟩
    · obtain ⟨h, hi⟩ := hh
      have e1 : s.2.2.1 k 1 = t.2 7 k := eB 1 7 (by omega) rfl h k
      have hb := h.bt k
      refine ⟨I_tr hk (I_fc h), fun i i3 ik => ?_⟩
      unfold fcC trM
      rw [rdB, rdA]
      by_cases c : i = k
      · rw [if_pos ⟨c, rfl⟩, if_pos ⟨rfl, c⟩, e1]
        exact ⟨rfl, by omega, by omega⟩
      · rw [if_neg (fun z => c z.1), if_neg (fun z => c z.2)]
        exact hi i i3 (by omega)
    · obtain ⟨h, hi⟩ := hh
      have e1 : s.2.2.1 k 1 = t.2 7 k := eB 1 7 (by omega) rfl h k
      obtain ⟨z1, z2, z3, z4⟩ := bt0 h hk
      refine ⟨I_fc h, fun i i3 ik => ?_⟩
      unfold fcC
      rw [rdB]
      by_cases c : i = k
      · rw [if_pos ⟨c, rfl⟩, e1, c, z2, z4, i_0]
        exact ⟨rfl, by omega, by omega⟩
      · rw [if_neg (fun z => c z.1)]
        exact hi i i3 (by omega)
  exact ⟨main.1, fun i hi => main.2 i hi hi⟩
theorem tt_1 {x : Int32} (h : TT n d S M) (hx : 0 ≤ x.toInt) : TT n d (itr foC 3 (S, x)).1 (itr toM n.2.1 (M, x)).1 := by
  have main : TT n d (itr foC 3 (S, x)).1 (itr toM n.2.1 (M, x)).1 ∧ (itr foC 3 (S, x)).2 = (itr toM n.2.1 (M, x)).2 ∧ 0 ≤ ((itr foC 3 (S, x)).2).toInt := by
    refine itS (P := fun (k : Nat) (s : CS × Int32) (t : MS × Int32) => TT n d s.1 t.1 ∧ s.2 = t.2 ∧ 0 ≤ s.2.toInt) h.1.ok.2.1 (fun k s t hk hh => ?_) (fun k s t hk hk3 hh => ?_) ⟨h, rfl, hx⟩
    · obtain ⟨⟨h, hi⟩, e, h0⟩ := hh
      have hn := h.ok.2.1
      have e2 : s.1.2.2.1 k 2 = t.1.2 8 k := eB 2 8 (by omega) rfl h k
      obtain ⟨e5, b0, b1⟩ := hi k (by omega)
      have hb := h.bt k
      have g0 := mn_0 (x := t.1.2 8 k) (y := t.1.2 11 k) hb.2.1.1 b0
      have g1 := mn_le2 (t.1.2 8 k) (t.1.2 11 k)
      have g2 := mn_le1 (t.1.2 8 k) (t.1.2 11 k)
      have m0 := mn_0 (x := mn (t.1.2 8 k) (t.1.2 11 k)) (y := t.2) g0 (by rw [← e]; exact h0)
      have m1 := mn_le1 (mn (t.1.2 8 k) (t.1.2 11 k)) t.2
      have m2 := mn_le2 (mn (t.1.2 8 k) (t.1.2 11 k)) t.2
      unfold foC toM
      rw [e2, e5, e]
      generalize mn (mn (t.1.2 8 k) (t.1.2 11 k)) t.2 = p at m0 m1 m2 ⊢
      have eW : (t.1.2 11 k - p).toInt = (t.1.2 11 k).toInt - p.toInt := i_sub (by omega) (by omega)
      have eL : (t.2 - p).toInt = t.2.toInt - p.toInt := by
        rw [Int32.toInt_sub]
        have := t.2.toInt_lt
        exact Int.bmod_eq_of_le (by omega) (by omega)
      refine ⟨⟨I_tr hk (I_fc h), fun i i3 => ?_⟩, rfl, by show 0 ≤ (t.2 - p).toInt; omega⟩
      dsimp only
      rw [rdB, rdA]
      by_cases c : i = k
      · rw [if_pos ⟨c, rfl⟩, if_pos ⟨rfl, c⟩]
        exact ⟨rfl, by omega, by omega⟩
      · rw [if_neg (fun z => c z.1), if_neg (fun z => c z.2)]
        exact hi i i3
    · obtain ⟨⟨h, hi⟩, e, h0⟩ := hh
      obtain ⟨z1, z2, z3, z4⟩ := bt0 h hk
      have e2 : s.1.2.2.1 k 2 = t.1.2 8 k := eB 2 8 (by omega) rfl h k
      obtain ⟨e5, b0, b1⟩ := hi k (by omega)
      have e9 : foC k s = s := by
        unfold foC
        rw [e2, e5, z4, mn_0r (h.bt k).2.1.1, mn_0l h0, r_sub0, r_sub0, cuB_same (by rw [e5, z4])]
      rw [e9]
      exact ⟨⟨h, hi⟩, e, h0⟩
  exact main.1
theorem tt_s (h : TT n d S M) : sm (fun k => mn (S.2.2.1 k 2) (S.2.2.1 k 5)) 3 = sm (fun k => mn (M.2 8 k) (M.2 11 k)) n.2.1 := by
  obtain ⟨h, hi⟩ := h
  refine Eq.symm (sm_ext h.ok.2.1 (fun j hj => ?_) (fun j h1 h2 => ?_))
  · have hn := h.ok.2.1
    show mn _ _ = mn _ _
    rw [eB 2 8 (by omega) rfl h, (hi j (by omega)).1]
  · show mn _ _ = 0
    rw [eB 2 8 (by omega) rfl h, (hi j h2).1, (bt0 h h1).2.2.2]
    exact mn_0r (h.bt j).2.1.1
theorem bm_h {v : Int32} (hv : 0 ≤ v.toInt) : ∀ (q k : Nat) (S : CS) (M : MS), k ≤ 1000 → 1000 < k + q → TT n d S M → (f_X3_batteryMinutes_h46 q k S v).1 = (f_X4_batteryMinutes_h48 n q k M v).1 ∧ Iv n d (f_X3_batteryMinutes_h46 q k S v).2 (f_X4_batteryMinutes_h48 n q k M v).2 := by
  intro q
  induction q with
  | zero => intro k S M h1 h2; omega
  | succ q ih =>
    intro k S M h1 h2 h
    rw [f_X3_batteryMinutes_h46, f_X4_batteryMinutes_h48]
    by_cases c : 1000 ≤ k
    · rw [if_pos c, if_pos c]
      exact ⟨rfl, h.1⟩
    · rw [if_neg c, if_neg c, fBN_eq, fo_eq, tt_s h]
      unfold f_X3_batteryMinutes_c55 f_X4_batteryMinutes_c60 f_X3_batteryMinutes_b67 f_X4_batteryMinutes_b133
      dsimp only
      by_cases c2 : v ≤ sm (fun k => mn (M.2 8 k) (M.2 11 k)) n.2.1
      · rw [if_pos c2, if_neg (show ¬ (1 : Int32) = 0 from by decide), if_neg (by rw [i_lt]; rw [i_le] at c2; omega), toM_lp]
        exact ih (k + 1) _ _ (by omega) (by omega) (tt_1 h hv)
      · rw [if_neg c2, if_pos (show (0 : Int32) = 0 from rfl), if_pos (by rw [i_lt]; rw [i_le] at c2; omega)]
        exact ⟨rfl, h.1⟩
def F0k (S : CS) : Prop := ∀ i, i < 3 → 0 ≤ (S.2.2.1 i 5).toInt ∧ (S.2.2.1 i 5).toInt ≤ 20000
theorem f0_1 (h : Iv n d S M) (h5 : F0k S) : Iv n d (itr foC 3 (S, 0)).1 M ∧ F0k (itr foC 3 (S, 0)).1 := by
  have main : (Iv n d (itr foC 3 (S, 0)).1 M ∧ F0k (itr foC 3 (S, 0)).1) ∧ (itr foC 3 (S, 0)).2 = 0 := by
    refine itP (P := fun _ (s : CS × Int32) => (Iv n d s.1 M ∧ F0k s.1) ∧ s.2 = 0) (st := foC) (B := 3) (S := (S, 0)) (fun k s hk hs => ?_) ⟨⟨h, h5⟩, rfl⟩
    obtain ⟨⟨h, h5⟩, e⟩ := hs
    have e2 : s.1.2.2.1 k 2 = M.2 8 k := eB 2 8 (by omega) rfl h k
    have e9 : foC k s = s := by
      unfold foC
      rw [e2, e, mn_0r (mn_0 (h.bt k).2.1.1 (h5 k hk).1), r_sub0, r_sub0, cuB_same rfl, ← e]
    rw [e9]
    exact ⟨⟨h, h5⟩, e⟩
  exact main.1
theorem bm_0 : ∀ (q k : Nat) (S : CS), k ≤ 1000 → 1000 < k + q → Iv n d S M → F0k S → (f_X3_batteryMinutes_h46 q k S 0).1 = 1000 ∧ Iv n d (f_X3_batteryMinutes_h46 q k S 0).2 M := by
  intro q
  induction q with
  | zero => intro k S h1 h2; omega
  | succ q ih =>
    intro k S h1 h2 h h5
    rw [f_X3_batteryMinutes_h46]
    by_cases c : 1000 ≤ k
    · have e : k = 1000 := by omega
      rw [if_pos c, e]
      exact ⟨by show nI 1000 = 1000; decide, h⟩
    · have c2 : (0 : Int32) ≤ sm (fun k => mn (S.2.2.1 k 2) (S.2.2.1 k 5)) 3 := by
        rw [i_le0]
        refine (sm_bd (B := 500) (by omega) (by omega) (fun j hj => ?_)).1
        have hb := h.bt j
        have e2 : S.2.2.1 j 2 = M.2 8 j := eB 2 8 (by omega) rfl h j
        have m1 := mn_le1 (M.2 8 j) (S.2.2.1 j 5)
        show 0 ≤ (mn _ _).toInt ∧ (mn _ _).toInt ≤ 500
        rw [e2]
        exact ⟨mn_0 hb.2.1.1 (h5 j hj).1, by omega⟩
      rw [if_neg c, fo_eq, if_pos c2]
      unfold f_X3_batteryMinutes_c55
      dsimp only
      rw [if_neg (show ¬ (1 : Int32) = 0 from by decide)]
      obtain ⟨h6, h7⟩ := f0_1 h h5
      exact ih (k + 1) _ (by omega) (by omega) h6 h7
theorem fc_0 (h : Iv n d S M) : Iv n d (itr fcC 3 S) M ∧ F0k (itr fcC 3 S) := by
  have main : Iv n d (itr fcC 3 S) M ∧ ∀ i, i < 3 → i < 3 → 0 ≤ ((itr fcC 3 S).2.2.1 i 5).toInt ∧ ((itr fcC 3 S).2.2.1 i 5).toInt ≤ 20000 := by
    refine itP (P := fun (k : Nat) (s : CS) => Iv n d s M ∧ ∀ i, i < 3 → i < k → 0 ≤ (s.2.2.1 i 5).toInt ∧ (s.2.2.1 i 5).toInt ≤ 20000) (st := fcC) (B := 3) (S := S) (fun k s hk hs => ?_) ⟨h, fun i _ hi => absurd hi (Nat.not_lt_zero i)⟩
    obtain ⟨h, hi⟩ := hs
    have e1 : s.2.2.1 k 1 = M.2 7 k := eB 1 7 (by omega) rfl h k
    have hb := h.bt k
    refine ⟨I_fc h, fun i i3 ik => ?_⟩
    unfold fcC
    rw [rdB]
    by_cases c : i = k
    · rw [if_pos ⟨c, rfl⟩, e1]
      omega
    · rw [if_neg (fun z => c z.1)]
      exact hi i i3 (by omega)
  exact ⟨main.1, fun i hi => main.2 i hi hi⟩
theorem bm_R (h : Iv n d S M) : (f_X3_batteryMinutes S).1 = (f_X4_batteryMinutes n M).1 ∧ Iv n d (f_X3_batteryMinutes S).2 (f_X4_batteryMinutes n M).2 := by
  have hb := need_bd h
  have h' : Iv n d S (muS M 0 0) := I_th h
  have hd := demand_R h
  unfold f_X3_batteryMinutes f_X3_batteryMinutes_c1 f_X4_batteryMinutes f_X4_batteryMinutes_c6
  rw [hd, needed_eq]
  dsimp only
  rw [rdS2, fcC_lp]
  by_cases c : sm (srd (M.2 3) (M.2 2)) n.1 = 0
  · rw [if_pos c, c]
    obtain ⟨h6, h7⟩ := fc_0 h'
    exact bm_0 1001 0 _ (by omega) (by omega) h6 h7
  · rw [if_neg c, trM_lp]
    exact bm_h hb.1 1001 0 _ _ (by omega) (by omega) (tt_0 h')
end FO
